/-! Tables that are probed place by place: class and reference alike. -/
/-- m codes stand in a table of sz places, by their homes -/
def pqHt (sz : Nat) (h : Int32 → Nat) (T met : Nat → Int32) (m : Nat) : Prop :=
  m < sz ∧ sz ≤ 1024 ∧ (∀ p, p < sz → T p = 0 ∨ ∃ k, k < m ∧ T p = nI (k + 1)) ∧ (∀ p q, p < sz → q < sz → ¬ T p = 0 → T p = T q → p = q) ∧
  (∀ k, k < m → ∃ d, d < sz ∧ T ((h (met k) + d) % sz) = nI (k + 1) ∧ ∀ e, e < d → ¬ T ((h (met k) + e) % sz) = 0) ∧ (∀ i j, i < j → j < m → met i ≠ met j)
theorem pqHt_0 {sz : Nat} {h : Int32 → Nat} {T met : Nat → Int32} (h0 : 0 < sz) (h1 : sz ≤ 1024) (hT : ∀ p, p < sz → T p = 0) : pqHt sz h T met 0 :=
  ⟨h0, h1, fun p hp => Or.inl (hT p hp), fun p q hp _ z _ => absurd (hT p hp) z, fun k z => absurd z (Nat.not_lt_zero _), fun i j _ z => absurd z (Nat.not_lt_zero _)⟩
theorem pqHt_free {sz m : Nat} {h : Int32 → Nat} {T met : Nat → Int32} (H : pqHt sz h T met m) : ∃ p, p < sz ∧ T p = 0 := by
  obtain ⟨hm, hs, h1, h2, h3, h4⟩ := H
  by_cases c : ∃ p, p < sz ∧ T p = 0
  · exact c
  · exfalso
    have hall : ∀ p, p < sz → ∃ k, k < m ∧ T p = nI (k + 1) := fun p hp => (h1 p hp).resolve_left (fun z => c ⟨p, hp, z⟩)
    obtain ⟨i, j, hij, hj, e⟩ := fb_twice (m := m) (n := sz) (f := fun p => (T p).toInt.toNat - 1) (fun i hi => by
      obtain ⟨k, hk, e⟩ := hall i hi
      show (T i).toInt.toNat - 1 < m
      rw [e, nI_toInt (by omega)]
      omega) hm
    obtain ⟨k1, hk1, e1⟩ := hall i (by omega)
    obtain ⟨k2, hk2, e2⟩ := hall j hj
    have e : (T i).toInt.toNat - 1 = (T j).toInt.toNat - 1 := e
    rw [e1, e2, nI_toInt (by omega), nI_toInt (by omega)] at e
    have e3 : k1 = k2 := by omega
    have := h2 i j (by omega) hj (by rw [e1]; exact nI_ne0 (by omega) (by omega)) (by rw [e1, e2, e3])
    omega
theorem pqHt_find {sz m : Nat} {h : Int32 → Nat} {T met : Nat → Int32} (H : pqHt sz h T met m) (code : Int32) (hc : h code < sz) : ∃ e, e < sz ∧ (∀ d, d < e → ∃ k, k < m ∧ T ((h code + d) % sz) = nI (k + 1) ∧ met k ≠ code) ∧ ((T ((h code + e) % sz) = 0 ∧ ∀ k, k < m → met k ≠ code) ∨ ∃ k, k < m ∧ T ((h code + e) % sz) = nI (k + 1) ∧ met k = code) := by
  obtain ⟨p, hp, ep⟩ := pqHt_free H
  obtain ⟨hm, hs, h1, h2, h3, h4⟩ := H
  have hp2 : ∃ d, d < sz ∧ (h code + d) % sz = p := by
    rcases Nat.lt_or_ge p (h code) with c | c
    · exact ⟨p + sz - h code, by omega, by rw [show h code + (p + sz - h code) = p + sz by omega, Nat.add_mod_right, Nat.mod_eq_of_lt hp]⟩
    · exact ⟨p - h code, by omega, by rw [show h code + (p - h code) = p by omega, Nat.mod_eq_of_lt hp]⟩
  obtain ⟨d0, hd0, ed0⟩ := hp2
  have hex : ∃ i, i < sz ∧ (T ((h code + i) % sz) = 0 ∨ met ((T ((h code + i) % sz)).toInt.toNat - 1) = code) := ⟨d0, hd0, Or.inl (by rw [ed0, ep])⟩
  obtain ⟨e, he, hpe, hno⟩ := fb_first (p := fun i => T ((h code + i) % sz) = 0 ∨ met ((T ((h code + i) % sz)).toInt.toNat - 1) = code) hex
  have hlt : ∀ d, (h code + d) % sz < sz := fun d => Nat.mod_lt _ (by omega)
  refine ⟨e, he, fun d hd => ?_, ?_⟩
  · have z := hno d hd
    obtain ⟨k, hk, ek⟩ := (h1 _ (hlt d)).resolve_left (fun y => z (Or.inl y))
    refine ⟨k, hk, ek, fun y => z (Or.inr ?_)⟩
    rw [ek, nI_toInt (by omega), show ((k + 1 : Nat) : Int).toNat - 1 = k by omega]
    exact y
  · rcases h1 _ (hlt e) with c | ⟨k, hk, ek⟩
    · left
      refine ⟨c, fun k hk ek => ?_⟩
      obtain ⟨d, hd, e1, e2⟩ := h3 k hk
      rw [ek] at e1 e2
      rcases Nat.lt_trichotomy e d with z | z | z
      · exact e2 e z c
      · subst z
        rw [c] at e1
        exact nI_ne0 (n := k + 1) (by omega) (by omega) e1.symm
      · refine hno d z (Or.inr ?_)
        rw [e1, nI_toInt (by omega), show ((k + 1 : Nat) : Int).toNat - 1 = k by omega]
        exact ek
    · right
      rcases hpe with c | c
      · rw [ek] at c
        exact absurd c (nI_ne0 (by omega) (by omega))
      · rw [ek, nI_toInt (by omega), show ((k + 1 : Nat) : Int).toNat - 1 = k by omega] at c
        exact ⟨k, hk, ek, c⟩
theorem pqHt_put {sz m e : Nat} {h : Int32 → Nat} {T met : Nat → Int32} (H : pqHt sz h T met m) {code : Int32} (hm1 : m + 1 < sz) (he : e < sz) (hz : T ((h code + e) % sz) = 0) (hch : ∀ d, d < e → ¬ T ((h code + d) % sz) = 0) (hnew : ∀ k, k < m → met k ≠ code) : pqHt sz h (upd T ((h code + e) % sz) (nI (m + 1))) (upd met m code) (m + 1) := by
  obtain ⟨hm, hs, h1, h2, h3, h4⟩ := H
  have hlt : ∀ d, (h code + d) % sz < sz := fun d => Nat.mod_lt _ (by omega)
  obtain ⟨P, hP⟩ : ∃ P, P = (h code + e) % sz := ⟨_, rfl⟩
  have hPl : P < sz := hP ▸ hlt e
  rw [← hP] at hz ⊢
  have hnz : ∀ q, ¬ T q = 0 → ¬ upd T P (nI (m + 1)) q = 0 := by
    intro q hq
    by_cases c : q = P
    · rw [c, pk_us]
      exact nI_ne0 (by omega) (by omega)
    · rw [pk_un c]
      exact hq
  refine ⟨hm1, hs, fun p hp => ?_, fun p q hp hq hpz hpq => ?_, fun k hk => ?_, fun i j hij hj => ?_⟩
  · by_cases c : p = P
    · right
      exact ⟨m, by omega, by rw [c, pk_us]⟩
    · rw [pk_un c]
      rcases h1 p hp with z | ⟨k, hk, ek⟩
      · exact Or.inl z
      · exact Or.inr ⟨k, by omega, ek⟩
  · by_cases c : p = P
    · by_cases c2 : q = P
      · rw [c, c2]
      · exfalso
        rw [c, pk_us, pk_un c2] at hpq
        rcases h1 q hq with z | ⟨k, hk, ek⟩
        · rw [z] at hpq
          exact nI_ne0 (n := m + 1) (by omega) (by omega) hpq
        · rw [ek, nI_eq (by omega) (by omega)] at hpq
          omega
    · by_cases c2 : q = P
      · exfalso
        rw [c2, pk_us, pk_un c] at hpq
        rcases h1 p hp with z | ⟨k, hk, ek⟩
        · rw [z] at hpq
          exact nI_ne0 (n := m + 1) (by omega) (by omega) hpq.symm
        · rw [ek, nI_eq (by omega) (by omega)] at hpq
          omega
      · rw [pk_un c] at hpz hpq
        rw [pk_un c2] at hpq
        exact h2 p q hp hq hpz hpq
  · by_cases c : k = m
    · subst c
      rw [pk_us]
      exact ⟨e, he, by rw [← hP, pk_us], fun d hd => hnz _ (hch d hd)⟩
    · rw [pk_un c]
      obtain ⟨d, hd, e1, e2⟩ := h3 k (by omega)
      refine ⟨d, hd, ?_, fun z hz2 => hnz _ (e2 z hz2)⟩
      rw [pk_un, e1]
      intro y
      rw [y, hz] at e1
      exact nI_ne0 (n := k + 1) (by omega) (by omega) e1.symm
  · by_cases c : j = m
    · rw [c, pk_us, pk_un (by omega)]
      exact hnew i (by omega)
    · rw [pk_un c, pk_un (by omega)]
      exact h4 i j hij (by omega)
/-! homes -/
def pqH1 (c : Int32) : Nat := (((c * (-1640531535 : Int32)).toUInt32 >>> ((23 : Int32).toUInt32 &&& Int32.toUInt32 31)).toInt32).toBitVec.toNat
theorem pq_nIof (x : Int32) : x = nI x.toBitVec.toNat := by
  apply Int32.toBitVec_inj.mp
  show _ = BitVec.ofNat 32 _
  simp
theorem pqH1_eq (c : Int32) : ((c * (-1640531535 : Int32)).toUInt32 >>> ((23 : Int32).toUInt32 &&& Int32.toUInt32 31)).toInt32 = nI (pqH1 c) := pq_nIof _
theorem pqH1_lt (c : Int32) : pqH1 c < 512 := by
  obtain ⟨k, hk, e⟩ := pq_small (x := ((c * (-1640531535 : Int32)).toUInt32 >>> ((23 : Int32).toUInt32 &&& Int32.toUInt32 31)).toInt32) 9 (fun i h1 h2 => by
    have z := b_ushr 23 (by omega) (c * (-1640531535 : Int32)) i
    have z2 : bt (c * (-1640531535 : Int32)) (23 + i) = false := b_big (by omega)
    rw [z2] at z
    exact z)
  unfold pqH1
  rw [e, pk_tn (by omega)]
  exact hk
def pqH2 (c : Int32) : Nat := (((((c * (31 : Int32)) &&& (1023 : Int32)) ^^^ (c >>> ((9 : Int32) &&& (31 : Int32)))) ^^^ (c >>> ((17 : Int32) &&& (31 : Int32)))) &&& (1023 : Int32)).toBitVec.toNat
theorem pqH2_eq (c : Int32) : ((((c * (31 : Int32)) &&& (1023 : Int32)) ^^^ (c >>> ((9 : Int32) &&& (31 : Int32)))) ^^^ (c >>> ((17 : Int32) &&& (31 : Int32)))) &&& (1023 : Int32) = nI (pqH2 c) := pq_nIof _
theorem pqH2_lt (c : Int32) : pqH2 c < 1024 := by
  obtain ⟨k, hk, e⟩ := pk_andE (((((c * (31 : Int32)) &&& (1023 : Int32)) ^^^ (c >>> ((9 : Int32) &&& (31 : Int32)))) ^^^ (c >>> ((17 : Int32) &&& (31 : Int32))))) (m := (1023 : Int32)) 10 (by decide)
  unfold pqH2
  rw [e, pk_tn (by omega)]
  exact hk
theorem pq_p511 (a : Nat) : nI (a % 512 + 1) &&& (511 : Int32) = nI ((a + 1) % 512) := by
  rw [pk_andN (by omega) (m := (511 : Int32)) 9 (by decide)]
  show nI ((a % 512 + 1) % 512) = _
  rw [Nat.mod_add_mod]
theorem pq_p1023 (a : Nat) : nI (a % 1024 + 1) &&& (1023 : Int32) = nI ((a + 1) % 1024) := by
  rw [pk_andN (by omega) (m := (1023 : Int32)) 10 (by decide)]
  show nI ((a % 1024 + 1) % 1024) = _
  rw [Nat.mod_add_mod]
/-! the class's slot of a code -/
theorem pq_slotOf {fu m : Nat} {met T : Nat → Int32} (H : pqHt 512 pqH1 T met m) (hm : m ≤ 300) (hf : 4096 ≤ fu) (code : Int32) : ∃ e, e < 512 ∧ F_X2_slotOf fu met T code = some (nI ((pqH1 code + e) % 512)) ∧ (∀ d, d < e → ¬ T ((pqH1 code + d) % 512) = 0) ∧ ((T ((pqH1 code + e) % 512) = 0 ∧ ∀ k, k < m → met k ≠ code) ∨ ∃ k, k < m ∧ T ((pqH1 code + e) % 512) = nI (k + 1) ∧ met k = code) := by
  obtain ⟨e, he, hno, hyes⟩ := pqHt_find H code (pqH1_lt code)
  refine ⟨e, he, ?_, fun d hd => ?_, hyes⟩
  · unfold F_X2_slotOf
    rw [pqH1_eq, Option.bind_some]
    have hlt : ∀ d, (pqH1 code + d) % 512 < 512 := fun d => Nat.mod_lt _ (by omega)
    have h0 : nI (pqH1 code) = nI ((pqH1 code + 0) % 512) := by rw [Nat.add_zero, Nat.mod_eq_of_lt (pqH1_lt code)]
    rw [h0]
    refine zlp_r2 (fun d => nI ((pqH1 code + d) % 512)) (fun d => nI d) e ?_ ?_ (by omega)
    · intro rec d hd
      obtain ⟨k, hk, e1, e2⟩ := hno d hd
      have h512 : ¬ (512 : Int32) ≤ nI d := nI_ge (b := 512) (by omega) (by omega)
      simp (disch := omega) only [F_X2_slotOf_L10, h512, ↓reduceIte, pq_rd (hlt d), e1, Option.bind_some, nI_ne0, nI_pred, pq_rd, e2, pq_p511, nI_1]
      rfl
    · intro rec
      have h512 : ¬ (512 : Int32) ≤ nI e := nI_ge (b := 512) (by omega) (by omega)
      rcases hyes with ⟨z, _⟩ | ⟨k, hk, e1, e2⟩
      · simp (disch := omega) only [F_X2_slotOf_L10, h512, ↓reduceIte, pq_rd (hlt e), z, Option.bind_some, F_X2_slotOf_E59]
      · simp (disch := omega) only [F_X2_slotOf_L10, h512, ↓reduceIte, pq_rd (hlt e), e1, Option.bind_some, nI_ne0, nI_pred, pq_rd, e2]
  · obtain ⟨k, hk, e1, e2⟩ := hno d hd
    rw [e1]
    exact nI_ne0 (by omega) (by omega)
/-! the reference's place of a code -/
theorem pq_metAt {fu m : Nat} {met T waysOf into : Nat → Int32} (H : pqHt 1024 pqH2 T met m) (hm : m ≤ 300) (hf : 4096 ≤ fu) (code : Int32) : ∃ e, e < 1024 ∧ (∀ d, d < e → ¬ T ((pqH2 code + d) % 1024) = 0) ∧ ((T ((pqH2 code + e) % 1024) = 0 ∧ (∀ k, k < m → met k ≠ code) ∧ F_X4_metAt fu (nI m) met T waysOf into code = some (nI m, nI (m + 1), upd met m code, upd T ((pqH2 code + e) % 1024) (nI (m + 1)), upd waysOf m 0, upd into m 0)) ∨ ∃ k, k < m ∧ met k = code ∧ F_X4_metAt fu (nI m) met T waysOf into code = some (nI k, nI m, met, T, waysOf, into)) := by
  obtain ⟨e, he, hno, hyes⟩ := pqHt_find H code (pqH2_lt code)
  have hlt : ∀ d, (pqH2 code + d) % 1024 < 1024 := fun d => Nat.mod_lt _ (by omega)
  have h0 : nI (pqH2 code) = nI ((pqH2 code + 0) % 1024) := by rw [Nat.add_zero, Nat.mod_eq_of_lt (pqH2_lt code)]
  have key : F_X4_metAt fu (nI m) met T waysOf into code = F_X4_metAt_E62 into (nI m) met T waysOf code (nI ((pqH2 code + e) % 1024)) := by
    unfold F_X4_metAt
    rw [pqH2_eq, Option.bind_some, h0]
    refine zlp_r1 (fun d => nI ((pqH2 code + d) % 1024)) e ?_ ?_ (by omega)
    · intro rec d hd
      obtain ⟨k, hk, e1, e2⟩ := hno d hd
      simp (disch := omega) only [F_X4_metAt_L25, pq_rd (hlt d), e1, Option.bind_some, nI_nle, ↓reduceIte, nI_pred, pq_rd, e2, nI_1, pq_p1023]
      rfl
    · intro rec
      rcases hyes with ⟨z, _⟩ | ⟨k, hk, e1, e2⟩
      · simp (disch := omega) only [F_X4_metAt_L25, pq_rd (hlt e), z, Option.bind_some, Int32.le_refl, ↓reduceIte]
      · simp (disch := omega) only [F_X4_metAt_L25, pq_rd (hlt e), e1, Option.bind_some, nI_nle, ↓reduceIte, nI_pred, pq_rd, e2]
  refine ⟨e, he, fun d hd => ?_, ?_⟩
  · obtain ⟨k, hk, e1, e2⟩ := hno d hd
    rw [e1]
    exact nI_ne0 (by omega) (by omega)
  · rcases hyes with ⟨z, hn⟩ | ⟨k, hk, e1, e2⟩
    · left
      refine ⟨z, hn, ?_⟩
      rw [key]
      simp (disch := omega) only [F_X4_metAt_E62, pq_rd (hlt e), z, Option.bind_some, ↓reduceIte, pq_wr, pq_wr (hlt e), nI_1, F_X4_metAt_J121, pk_us, nI_pred]
    · right
      refine ⟨k, hk, e2, ?_⟩
      rw [key]
      simp (disch := omega) only [F_X4_metAt_E62, pq_rd (hlt e), e1, Option.bind_some, nI_ne0, ↓reduceIte, F_X4_metAt_J121, nI_pred]
