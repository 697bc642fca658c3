/-! Whether some way goes round: class and reference side by side. -/
def pqWh (m lo found : Nat) (A FR I T : Nat → Int32) : Prop := (∀ t, t < m → I t = A t ∧ -(lo : Int) ≤ (A t).toInt ∧ (A t).toInt ≤ 3000) ∧ found = fb_ct (fun t => decide ((A t).toInt ≤ 0)) m ∧ ∀ j, j < found → T j = FR j ∧ ∃ q, q < m ∧ FR j = nI q
theorem pq_wh_in {m g : Nat} {o : Nat → Nat} {tg : Nat → Nat → Nat} {outs out ways wof : Nat → Int32} {K K2 : Int32 → Int32 → (Nat → Int32) → (Nat → Int32) → Option (Int32 × (Nat → Int32) × (Nat → Int32))} (hm : m ≤ 300) (hg : g < m) (h7 : o g ≤ 7) (ho : outs g = nI (o g)) (hw : wof g = nI (o g)) (he : ∀ k, k < o g → tg g k < m ∧ out (7 * g + k) = nI (tg g k) ∧ ways (7 * g + k) = nI (tg g k)) : ∀ (jj k : Nat), k + jj = o g → ∀ (lo found : Nat) (A FR I T : Nat → Int32), pqWh m lo found A FR I T → lo + jj ≤ 5000 → ∀ fc fr, jj < fc → jj < fr → ∃ (found2 : Nat) (A2 FR2 I2 T2 : Nat → Int32), zlp4 (F_X2_hasWheel_L66 out outs (nI g) K) fc (nI found) (nI k) A FR = K (nI found2) (nI (o g)) A2 FR2 ∧ zlp4 (F_X4_hasWheel_L54 ways wof (nI g) K2) fr (nI found) (nI k) T I = K2 (nI found2) (nI (o g)) T2 I2 ∧ pqWh m (lo + jj) found2 A2 FR2 I2 T2 ∧ found ≤ found2 := by
  intro jj
  induction jj with
  | zero =>
    intro k hk lo found A FR I T h hlo fc fr h1 h2
    obtain rfl : k = o g := by omega
    obtain ⟨fc, rfl⟩ : ∃ q, fc = q + 1 := ⟨fc - 1, by omega⟩
    obtain ⟨fr, rfl⟩ : ∃ q, fr = q + 1 := ⟨fr - 1, by omega⟩
    refine ⟨found, A, FR, I, T, ?_, ?_, h, Nat.le_refl _⟩
    · rw [zlp_s4]
      simp (disch := omega) only [F_X2_hasWheel_L66, pq_rd, ho, Option.bind_some, Int32.le_refl, ↓reduceIte]
    · rw [zlp_s4]
      simp (disch := omega) only [F_X4_hasWheel_L54, pq_rd, hw, Option.bind_some, Int32.le_refl, ↓reduceIte]
  | succ jj ih =>
    intro k hk lo found A FR I T h hlo fc fr h1 h2
    obtain ⟨fc, rfl⟩ : ∃ q, fc = q + 1 := ⟨fc - 1, by omega⟩
    obtain ⟨fr, rfl⟩ : ∃ q, fr = q + 1 := ⟨fr - 1, by omega⟩
    obtain ⟨hA, hct, hq⟩ := h
    obtain ⟨t1, t2, t3⟩ := he k (by omega)
    obtain ⟨t, ht⟩ : ∃ t, t = tg g k := ⟨_, rfl⟩
    rw [← ht] at t1 t2 t3
    obtain ⟨b1, b2, b3⟩ := hA t t1
    have h10 : (1 : Int32).toInt = 1 := by decide
    have hv : (A t - 1).toInt = (A t).toInt - 1 := by
      rw [fb_subI (by rw [h10]; omega) (by rw [h10]; omega), h10]
    have hle : found ≤ m := by rw [hct]; exact fb_ct_le _ _
    have hcong : fb_ct (fun s => decide ((upd A t (A t - 1) s).toInt ≤ 0)) m = fb_ct (fun s => if s = t then decide ((A t - 1).toInt ≤ 0) else decide ((A s).toInt ≤ 0)) m := fb_ct_cong (fun s _ => by
      by_cases z : s = t
      · rw [z, pk_us, if_pos rfl]
      · rw [pk_un z, if_neg z])
    have hup := fb_ct_upd (fun s => decide ((A s).toInt ≤ 0)) (decide ((A t - 1).toInt ≤ 0)) t1
    rw [← hcong, ← hct] at hup
    have hA2 : ∀ s, s < m → upd I t (A t - 1) s = upd A t (A t - 1) s ∧ -((lo + 1 : Nat) : Int) ≤ (upd A t (A t - 1) s).toInt ∧ (upd A t (A t - 1) s).toInt ≤ 3000 := by
      intro s hs
      by_cases z : s = t
      · rw [z, pk_us, pk_us, hv]
        exact ⟨rfl, by omega, by omega⟩
      · rw [pk_un z, pk_un z]
        obtain ⟨c1, c2, c3⟩ := hA s hs
        exact ⟨c1, by omega, c3⟩
    by_cases z : A t - 1 = 0
    · have hz1 : (A t).toInt = 1 := by
        have e := congrArg Int32.toInt z
        rw [hv, Int32.toInt_zero] at e
        omega
      have hd1 : decide ((A t).toInt ≤ 0) = false := decide_eq_false (by omega)
      have hd2 : decide ((A t - 1).toInt ≤ 0) = true := decide_eq_true (by omega)
      simp only [hd1, hd2, Bool.false_eq_true, ↓reduceIte, Nat.add_zero] at hup
      have hlt : found < m := by
        rcases Nat.lt_or_ge found m with c | c
        · exact c
        · exfalso
          have e : fb_ct (fun t => decide ((A t).toInt ≤ 0)) m = m := by omega
          have := fb_ct_all.mp e t t1
          rw [hd1] at this
          cases this
      obtain ⟨f2, A2, FR2, I2, T2, g1, g2, g3, g4⟩ := ih (k + 1) (by omega) (lo + 1) (found + 1) (upd A t (A t - 1)) (upd FR found (nI t)) (upd I t (A t - 1)) (upd T found (nI t)) ⟨hA2, hup.symm, fun j hj => by
        by_cases c : j = found
        · rw [c, pk_us, pk_us]
          exact ⟨rfl, t, t1, rfl⟩
        · rw [pk_un c, pk_un c]
          exact hq j (by omega)⟩ (by omega) fc fr (by omega) (by omega)
      have h300 : ¬ (300 : Int32) ≤ nI found := nI_ge (b := 300) (by omega) (by omega)
      refine ⟨f2, A2, FR2, I2, T2, ?_, ?_, by rw [show lo + (jj + 1) = lo + 1 + jj by omega]; exact g3, by omega⟩
      · rw [zlp_s4]
        simp (disch := omega) only [F_X2_hasWheel_L66, pq_rd, ho, Option.bind_some, nI_leI, show ¬ o g ≤ k by omega, ↓reduceIte, pq_f7, t2, pq_wr, pk_us, z, h300, nI_1]
        rw [z] at g1
        exact g1
      · rw [zlp_s4]
        simp (disch := omega) only [F_X4_hasWheel_L54, pq_rd, hw, Option.bind_some, nI_leI, show ¬ o g ≤ k by omega, ↓reduceIte, pq_7f, t3, pq_wr, pk_us, b1, z, nI_1]
        rw [z] at g2
        exact g2
    · have hz1 : (A t - 1).toInt ≠ 0 := fun e => z (Int32.toInt_inj.mp (by rw [e, Int32.toInt_zero]))
      have hsame : decide ((A t - 1).toInt ≤ 0) = decide ((A t).toInt ≤ 0) := by
        by_cases c : (A t).toInt ≤ 0
        · rw [decide_eq_true c, decide_eq_true (by omega)]
        · rw [decide_eq_false c, decide_eq_false (by omega)]
      rw [hsame] at hup
      have hup2 : found = fb_ct (fun s => decide ((upd A t (A t - 1) s).toInt ≤ 0)) m := by omega
      obtain ⟨f2, A2, FR2, I2, T2, g1, g2, g3, g4⟩ := ih (k + 1) (by omega) (lo + 1) found (upd A t (A t - 1)) FR (upd I t (A t - 1)) T ⟨hA2, hup2, hq⟩ (by omega) fc fr (by omega) (by omega)
      refine ⟨f2, A2, FR2, I2, T2, ?_, ?_, by rw [show lo + (jj + 1) = lo + 1 + jj by omega]; exact g3, g4⟩
      · rw [zlp_s4]
        simp (disch := omega) only [F_X2_hasWheel_L66, pq_rd, ho, Option.bind_some, nI_leI, show ¬ o g ≤ k by omega, ↓reduceIte, pq_f7, t2, pq_wr, pk_us, z, nI_1]
        exact g1
      · rw [zlp_s4]
        simp (disch := omega) only [F_X4_hasWheel_L54, pq_rd, hw, Option.bind_some, nI_leI, show ¬ o g ≤ k by omega, ↓reduceIte, pq_7f, t3, pq_wr, pk_us, b1, z, nI_1]
        exact g2
theorem pq_wh_out {fu m : Nat} {o : Nat → Nat} {tg : Nat → Nat → Nat} {outs out ways wof : Nat → Int32} (hm : m ≤ 300) (h7 : ∀ g, o g ≤ 7) (ho : ∀ g, g < m → outs g = nI (o g)) (hw : ∀ g, g < m → wof g = nI (o g)) (he : ∀ g, g < m → ∀ k, k < o g → tg g k < m ∧ out (7 * g + k) = nI (tg g k) ∧ ways (7 * g + k) = nI (tg g k)) (hf : 4096 ≤ fu) : ∀ (jj i : Nat), i + jj = 300 → ∀ (lo found : Nat) (A FR I T : Nat → Int32), pqWh m lo found A FR I T → i ≤ found → lo ≤ 7 * i → ∀ fc fr, jj < fc → jj < fr → ∃ (v : Int32) (A2 FR2 I2 T2 : Nat → Int32), zlp4 (F_X2_hasWheel_L43 fu out outs (nI m) (F_X2_hasWheel_E142 (nI m))) fc (nI found) (nI i) A FR = some (v, A2, FR2) ∧ zlp4 (F_X4_hasWheel_L39 fu ways wof (F_X4_hasWheel_E123 (nI m))) fr (nI found) (nI i) T I = some (v, T2, I2) ∧ (v = 0 ∨ v = 1) := by
  have stop : ∀ (i found : Nat) (A FR I T : Nat → Int32) (fc fr : Nat), found ≤ i → i ≤ 300 → ∃ (v : Int32) (A2 FR2 I2 T2 : Nat → Int32), zlp4 (F_X2_hasWheel_L43 fu out outs (nI m) (F_X2_hasWheel_E142 (nI m))) (fc + 1) (nI found) (nI i) A FR = some (v, A2, FR2) ∧ zlp4 (F_X4_hasWheel_L39 fu ways wof (F_X4_hasWheel_E123 (nI m))) (fr + 1) (nI found) (nI i) T I = some (v, T2, I2) ∧ (v = 0 ∨ v = 1) := by
    intro i found A FR I T fc fr h1 h2
    rw [zlp_s4, zlp_s4]
    simp (disch := omega) only [F_X2_hasWheel_L43, F_X4_hasWheel_L39, nI_leI, h1, ↓reduceIte, F_X2_hasWheel_E142, F_X4_hasWheel_E123]
    split
    · exact ⟨_, _, _, _, _, rfl, rfl, Or.inl rfl⟩
    · exact ⟨_, _, _, _, _, rfl, rfl, Or.inr rfl⟩
  intro jj
  induction jj with
  | zero =>
    intro i hi lo found A FR I T h h1 h2 fc fr h3 h4
    obtain ⟨fc, rfl⟩ : ∃ q, fc = q + 1 := ⟨fc - 1, by omega⟩
    obtain ⟨fr, rfl⟩ : ∃ q, fr = q + 1 := ⟨fr - 1, by omega⟩
    have hle : found ≤ m := by rw [h.2.1]; exact fb_ct_le _ _
    exact stop i found A FR I T fc fr (by omega) (by omega)
  | succ jj ih =>
    intro i hi lo found A FR I T h h1 h2 fc fr h3 h4
    obtain ⟨fc, rfl⟩ : ∃ q, fc = q + 1 := ⟨fc - 1, by omega⟩
    obtain ⟨fr, rfl⟩ : ∃ q, fr = q + 1 := ⟨fr - 1, by omega⟩
    have hle : found ≤ m := by rw [h.2.1]; exact fb_ct_le _ _
    rcases Nat.lt_or_ge i found with c | c
    · obtain ⟨q1, g, hg, q2⟩ := h.2.2 i c
      have h7g := h7 g
      have e1 : zlp4 (F_X2_hasWheel_L43 fu out outs (nI m) (F_X2_hasWheel_E142 (nI m))) (fc + 1) (nI found) (nI i) A FR = zlp4 (F_X2_hasWheel_L66 out outs (nI g) (F_X2_hasWheel_E136 (zlp4 (F_X2_hasWheel_L43 fu out outs (nI m) (F_X2_hasWheel_E142 (nI m))) fc) (nI i))) fu (nI found) (nI 0) A FR := by
        rw [zlp_s4]
        simp (disch := omega) only [F_X2_hasWheel_L43, nI_leI, show ¬ found ≤ i by omega, show ¬ m ≤ i by omega, ↓reduceIte, pq_rd, q2, Option.bind_some]
        rfl
      have e2 : zlp4 (F_X4_hasWheel_L39 fu ways wof (F_X4_hasWheel_E123 (nI m))) (fr + 1) (nI found) (nI i) T I = zlp4 (F_X4_hasWheel_L54 ways wof (nI g) (F_X4_hasWheel_E117 (zlp4 (F_X4_hasWheel_L39 fu ways wof (F_X4_hasWheel_E123 (nI m))) fr) (nI i))) fu (nI found) (nI 0) T I := by
        rw [zlp_s4]
        simp (disch := omega) only [F_X4_hasWheel_L39, nI_leI, show ¬ found ≤ i by omega, ↓reduceIte, pq_rd, q1, q2, Option.bind_some]
        rfl
      obtain ⟨f2, A2, FR2, I2, T2, g1, g2, g3, g4⟩ := pq_wh_in (K := F_X2_hasWheel_E136 (zlp4 (F_X2_hasWheel_L43 fu out outs (nI m) (F_X2_hasWheel_E142 (nI m))) fc) (nI i)) (K2 := F_X4_hasWheel_E117 (zlp4 (F_X4_hasWheel_L39 fu ways wof (F_X4_hasWheel_E123 (nI m))) fr) (nI i)) hm hg h7g (ho g hg) (hw g hg) (he g hg) (o g) 0 (by omega) lo found A FR I T h (by omega) fu fu (by omega) (by omega)
      rw [e1, e2, g1, g2]
      unfold F_X2_hasWheel_E136 F_X4_hasWheel_E117
      rw [nI_1]
      exact ih (i + 1) (by omega) (lo + o g) f2 A2 FR2 I2 T2 g3 (by omega) (by omega) fc fr (by omega) (by omega)
    · exact stop i found A FR I T fc fr c (by omega)
theorem pq_wh_first {m : Nat} {A I : Nat → Int32} {K K2 : Int32 → Int32 → (Nat → Int32) → Option (Int32 × (Nat → Int32) × (Nat → Int32))} (hm : m ≤ 300) (hA : ∀ t, t < m → I t = A t ∧ 0 ≤ (A t).toInt) : ∀ (jj t : Nat), t + jj = m → ∀ (found : Nat) (FR T : Nat → Int32), found = fb_ct (fun t => decide ((A t).toInt ≤ 0)) t → (∀ j, j < found → T j = FR j ∧ ∃ q, q < m ∧ FR j = nI q) → ∀ fc fr, jj < fc → jj < fr → ∃ (found2 : Nat) (FR2 T2 : Nat → Int32), zlp3 (F_X2_hasWheel_L8 (nI m) A K) fc (nI found) (nI t) FR = K (nI found2) (nI m) FR2 ∧ zlp3 (F_X4_hasWheel_L4 I (nI m) K2) fr (nI found) (nI t) T = K2 (nI found2) (nI m) T2 ∧ found2 = fb_ct (fun t => decide ((A t).toInt ≤ 0)) m ∧ ∀ j, j < found2 → T2 j = FR2 j ∧ ∃ q, q < m ∧ FR2 j = nI q := by
  intro jj
  induction jj with
  | zero =>
    intro t ht found FR T h1 h2 fc fr h3 h4
    obtain rfl : t = m := by omega
    obtain ⟨fc, rfl⟩ : ∃ q, fc = q + 1 := ⟨fc - 1, by omega⟩
    obtain ⟨fr, rfl⟩ : ∃ q, fr = q + 1 := ⟨fr - 1, by omega⟩
    refine ⟨found, FR, T, ?_, ?_, h1, h2⟩
    · rw [zlp_s3]
      simp only [F_X2_hasWheel_L8, Int32.le_refl, ↓reduceIte]
    · rw [zlp_s3]
      simp only [F_X4_hasWheel_L4, Int32.le_refl, ↓reduceIte]
  | succ jj ih =>
    intro t ht found FR T h1 h2 fc fr h3 h4
    obtain ⟨fc, rfl⟩ : ∃ q, fc = q + 1 := ⟨fc - 1, by omega⟩
    obtain ⟨fr, rfl⟩ : ∃ q, fr = q + 1 := ⟨fr - 1, by omega⟩
    obtain ⟨a1, a2⟩ := hA t (by omega)
    have hft : found ≤ t := by rw [h1]; exact fb_ct_le _ _
    by_cases z : A t = 0
    · have hd : decide ((A t).toInt ≤ 0) = true := decide_eq_true (by rw [z, Int32.toInt_zero]; omega)
      obtain ⟨f2, FR2, T2, g1, g2, g3, g4⟩ := ih (t + 1) (by omega) (found + 1) (upd FR found (nI t)) (upd T found (nI t)) (by rw [fb_ct_succ, hd, ← h1]; rfl) (fun j hj => by
        by_cases c : j = found
        · rw [c, pk_us, pk_us]
          exact ⟨rfl, t, by omega, rfl⟩
        · rw [pk_un c, pk_un c]
          exact h2 j (by omega)) fc fr (by omega) (by omega)
      refine ⟨f2, FR2, T2, ?_, ?_, g3, g4⟩
      · rw [zlp_s3]
        simp (disch := omega) only [F_X2_hasWheel_L8, nI_leI, show ¬ m ≤ t by omega, ↓reduceIte, pq_rd, z, Option.bind_some, pq_wr, nI_1]
        exact g1
      · rw [zlp_s3]
        simp (disch := omega) only [F_X4_hasWheel_L4, nI_leI, show ¬ m ≤ t by omega, ↓reduceIte, pq_rd, a1, z, Option.bind_some, pq_wr, nI_1]
        exact g2
    · have hz1 : (A t).toInt ≠ 0 := fun e => z (Int32.toInt_inj.mp (by rw [e, Int32.toInt_zero]))
      have hd : decide ((A t).toInt ≤ 0) = false := decide_eq_false (by omega)
      obtain ⟨f2, FR2, T2, g1, g2, g3, g4⟩ := ih (t + 1) (by omega) found FR T (by rw [fb_ct_succ, hd, ← h1]; rfl) h2 fc fr (by omega) (by omega)
      refine ⟨f2, FR2, T2, ?_, ?_, g3, g4⟩
      · rw [zlp_s3]
        simp (disch := omega) only [F_X2_hasWheel_L8, nI_leI, show ¬ m ≤ t by omega, ↓reduceIte, pq_rd, z, Option.bind_some, nI_1]
        exact g1
      · rw [zlp_s3]
        simp (disch := omega) only [F_X4_hasWheel_L4, nI_leI, show ¬ m ≤ t by omega, ↓reduceIte, pq_rd, a1, z, Option.bind_some, nI_1]
        exact g2
theorem pq_wheel {fu m : Nat} {P : Nat → Int32 → Prop} {o : Nat → Nat} {tg : Nat → Nat → Nat} {metC slots outs out metR table ways wof into arr freed : Nat → Int32} (hS : pqSy P m m o tg metC slots outs out metR table ways wof into) (hf : 4096 ≤ fu) : ∃ (v : Int32) (A2 FR2 T2 I2 : Nat → Int32), F_X2_hasWheel fu (nI m) outs out arr freed = some (v, A2, FR2) ∧ F_X4_hasWheel fu (nI m) table ways wof into = some (v, T2, I2) ∧ (v = 0 ∨ v = 1) := by
  obtain ⟨hm, hmm, hH1, hH2, ⟨e1, e2, e3, e4, e5, e6, e7, e8⟩, hP⟩ := hS
  obtain ⟨A, eA, hA⟩ := pq_arrive (fu := fu) (arr := arr) hm e2 e5 (fun g hg k hk => ⟨(e6 g hg k hk).1, (e6 g hg k hk).2.1⟩) hf
  have hI : ∀ t, t < m → into t = A t ∧ 0 ≤ (A t).toInt := fun t ht => by
    have h3 := pqEc_end (tg := tg) (t := t) e4 (301 - m)
    rw [show m + (301 - m) = 301 by omega] at h3
    have h4 := pqEc_le (o := o) (tg := tg) (t := t) e5 m
    rw [e7 t ht, hA t ht, h3]
    refine ⟨rfl, ?_⟩
    rw [nI_toInt (by omega)]
    omega
  have hA3 : ∀ t, t < m → (A t).toInt ≤ 3000 := fun t ht => by
    have h4 := pqEc_le (o := o) (tg := tg) (t := t) e5 m
    rw [hA t ht, nI_toInt (by omega)]
    omega
  obtain ⟨f2, FR2, T2, g1, g2, g3, g4⟩ := pq_wh_first (K := F_X2_hasWheel_E41 fu out outs (nI m) A) (K2 := F_X4_hasWheel_E37 fu into (nI m) ways wof) hm hI m 0 (by omega) 0 freed table rfl (fun j hj => absurd hj (Nat.not_lt_zero _)) fu fu (by omega) (by omega)
  obtain ⟨v, A3, FR3, I3, T3, k1, k2, k3⟩ := pq_wh_out (fu := fu) hm e5 e2 e3 e6 hf 300 0 (by omega) 0 f2 A FR2 into T2 ⟨fun t ht => ⟨(hI t ht).1, by have := (hI t ht).2; omega, hA3 t ht⟩, g3, g4⟩ (Nat.zero_le _) (Nat.zero_le _) fu fu (by omega) (by omega)
  refine ⟨v, A3, FR3, T3, I3, ?_, ?_, k3⟩
  · unfold F_X2_hasWheel
    rw [eA, Option.bind_some]
    exact g1.trans k1
  · unfold F_X4_hasWheel
    exact g2.trans k2
