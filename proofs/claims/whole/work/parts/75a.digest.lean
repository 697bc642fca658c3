/-! The digest: one hash, class and reference side by side. -/
def pqHh (v : Nat → Int32) (h : Int64) : Nat → Int64
  | 0 => h
  | i + 1 => 31 * pqHh v h i + (v i).toInt64
theorem pqHh_4 (v : Nat → Int32) (h : Int64) (k : Nat) : ∀ i, pqHh v h (k + i) = pqHh (fun j => v (k + j)) (pqHh v h k) i
  | 0 => rfl
  | i + 1 => by
    show 31 * pqHh v h (k + i) + (v (k + i)).toInt64 = _
    rw [pqHh_4 v h k i]
    rfl
theorem pq_gd {o p : Option Int32} (h : ∃ v, o = some v ∧ p = some v) : o = some (o.getD 0) ∧ p = some (o.getD 0) := by
  obtain ⟨v, rfl, rfl⟩ := h
  exact ⟨rfl, rfl⟩
theorem pq_gd2 {o : Option Int64} (h : ∃ v, o = some v) : o = some (o.getD 0) := by
  obtain ⟨v, rfl⟩ := h
  rfl
theorem pq_40 : ¬ (4 : Int32) = 0 := by decide
theorem pq_hRelay {fu n r : Nat} {b : Nat → Nat} {br cl op pu dr cg s : Nat → Int32} {inp mot tk ch : Int32} (h : pqLad n b br cl op pu dr cg inp mot tk ch s) (hr : r < n) (hf : 4096 ≤ fu) (h0 : Int64) : ∃ k, F_X3_hashOfRelay fu (nI n) inp mot br cl op pu dr cg h0 (nI r) = some k ∧ ∀ rec, zlp2 (F_X4_mixesRelays_L14 fu s (nI r) (F_X4_mixesRelays_E37 fu rec s (nI r))) fu (0 : Int32) h0 = rec (nI r + (1 : Int32)) k := by
  have hn := h.1.1
  have hbr := h.1.2 r hr
  have hb4 := (h.2.1.2.2.2 r hr).2.2.2.1
  have hpv := fun i => pq_gd (pq_prop (fu := fu) h hr hf (nI i))
  generalize hpd : (fun i : Nat => (F_X3_propertyOf fu (nI n) inp mot br cl op pu dr cg (nI r) (nI i)).getD 0) = pv
  have hp1 : ∀ i, F_X3_propertyOf fu (nI n) inp mot br cl op pu dr cg (nI r) (nI i) = some (pv i) := fun i => by rw [← hpd]; exact (hpv i).1
  have hp2 : ∀ i, F_X4_ofRelay fu s (nI r) (nI i) = some (pv i) := fun i => by rw [← hpd]; exact (hpv i).2
  clear hpv hpd
  have hcv := fun j i (hj : j < b r) => pq_gd (pq_cont (fu := fu) h hr hj hf (nI i))
  generalize hcd : (fun k : Nat => (F_X3_contactAnswer fu inp mot cl op (nI r) (nI (k / 4)) (nI (k % 4))).getD 0) = cv
  have hc1 : ∀ j i, j < b r → i < 4 → F_X3_contactAnswer fu inp mot cl op (nI r) (nI j) (nI i) = some (cv (4 * j + i)) := fun j i hj hi => by
    rw [← hcd]
    show _ = some (Option.getD (F_X3_contactAnswer fu inp mot cl op (nI r) (nI ((4 * j + i) / 4)) (nI ((4 * j + i) % 4))) 0)
    rw [show (4 * j + i) / 4 = j by omega, show (4 * j + i) % 4 = i by omega]
    exact (hcv j i hj).1
  have hc2 : ∀ k, k < 4 * b r → F_X4_ofBranch fu s (nI r) (nI (k / 4)) (nI (k % 4)) = some (cv k) := fun k hk => by
    rw [← hcd]
    exact (hcv (k / 4) (k % 4) (by omega)).2
  clear hcv hcd
  obtain ⟨iv, hi1, hi2⟩ := pq_idle (fu := fu) h hr hf
  refine ⟨31 * pqHh cv (pqHh pv h0 9) (4 * b r) + iv.toInt64, ?_, ?_⟩
  · unfold F_X3_hashOfRelay
    refine zlp_r2 (fun i => pqHh pv h0 i) (fun i => nI i) 9 ?_ ?_ (by omega)
    · intro rec i hi
      simp (disch := omega) only [F_X3_hashOfRelay_L6, show ¬ (9 : Int32) ≤ nI i from nI_ge (b := 9) hi (by omega), ↓reduceIte, hp1 i, Option.bind_some, nI_1, pqHh]
    · intro rec
      simp only [F_X3_hashOfRelay_L6, show (9 : Int32) ≤ nI 9 by decide, ↓reduceIte, F_X3_hashOfRelay_E36]
      refine zlp_r2 (fun j => pqHh cv (pqHh pv h0 9) (4 * j)) (fun j => nI j) (b r) ?_ ?_ (by omega)
      · intro rec j hj
        simp (disch := omega) only [F_X3_hashOfRelay_L39, pq_rd, hbr.1, Option.bind_some, nI_leI, show ¬ b r ≤ j by omega, ↓reduceIte]
        refine zlp_r2 (fun i => pqHh cv (pqHh pv h0 9) (4 * j + i)) (fun i => nI i) 4 ?_ ?_ (by omega)
        · intro rec i hi
          simp (disch := omega) only [F_X3_hashOfRelay_L56, show ¬ (4 : Int32) ≤ nI i from nI_ge (b := 4) hi (by omega), ↓reduceIte, hc1 j i hj hi, Option.bind_some, nI_1]
          rfl
        · intro rec
          simp only [F_X3_hashOfRelay_L56, show (4 : Int32) ≤ nI 4 by decide, ↓reduceIte, F_X3_hashOfRelay_E87, nI_1]
          rw [show 4 * (j + 1) = 4 * j + 4 by omega]
      · intro rec
        simp (disch := omega) only [F_X3_hashOfRelay_L39, pq_rd, hbr.1, Option.bind_some, nI_leI, Nat.le_refl, ↓reduceIte, F_X3_hashOfRelay_E93, hi1]
  · intro rec2
    refine zlp_r2 (fun i => nI i) (fun i => pqHh pv h0 i) 9 ?_ ?_ (by omega)
    · intro rec i hi
      simp (disch := omega) only [F_X4_mixesRelays_L14, show ¬ (9 : Int32) ≤ nI i from nI_ge (b := 9) hi (by omega), ↓reduceIte, hp2 i, F_X4_mixes, Option.bind_some, nI_1, pqHh]
    · intro rec
      simp only [F_X4_mixesRelays_L14, show (9 : Int32) ≤ nI 9 by decide, ↓reduceIte, F_X4_mixesRelays_E37]
      refine zlp_r2 (fun j => nI j) (fun j => pqHh cv (pqHh pv h0 9) j) (4 * b r) ?_ ?_ (by omega)
      · intro rec k hk
        have e1 : (4 : Int32) * nI (b r) = nI (4 * b r) := pk_mul 4 _
        have e2 : nI k / (4 : Int32) = nI (k / 4) := pk_div (d := 4) (by omega) (by omega) (by omega)
        have e3 : nI k - nI (k / 4) * (4 : Int32) = nI (k % 4) := by
          rw [show nI (k / 4) * (4 : Int32) = nI (k / 4 * 4) from pk_mul _ 4, pk_sub (by omega), show k - k / 4 * 4 = k % 4 by omega]
        simp (disch := omega) only [F_X4_mixesRelays_L39, pq_of4, hb4, Option.bind_some, e1, nI_leI, show ¬ 4 * b r ≤ k by omega, ↓reduceIte, pq_40, e2, e3, hc2 k hk, F_X4_mixes, nI_1, pqHh]
      · intro rec
        have e1 : (4 : Int32) * nI (b r) = nI (4 * b r) := pk_mul 4 _
        simp (disch := omega) only [F_X4_mixesRelays_L39, pq_of4, hb4, Option.bind_some, e1, nI_leI, Nat.le_refl, ↓reduceIte, F_X4_mixesRelays_E76, hi2, F_X4_mixes]
/-- all relays -/
def pqHr (fu n : Nat) (br cl op pu dr cg : Nat → Int32) (inp mot : Int32) (h : Int64) : Nat → Int64
  | 0 => h
  | r + 1 => (F_X3_hashOfRelay fu (nI n) inp mot br cl op pu dr cg (pqHr fu n br cl op pu dr cg inp mot h r) (nI r)).getD 0
theorem pq_hRelays2 {fu n : Nat} {b : Nat → Nat} {br cl op pu dr cg s : Nat → Int32} {inp mot tk ch : Int32} (h : pqLad n b br cl op pu dr cg inp mot tk ch s) (hf : 4096 ≤ fu) (h0 : Int64) : F_X4_mixesRelays fu h0 s = some (pqHr fu n br cl op pu dr cg inp mot h0 n) := by
  have hn := h.1.1
  unfold F_X4_mixesRelays
  refine zlp_r2 (fun r => nI r) (fun r => pqHr fu n br cl op pu dr cg inp mot h0 r) n ?_ ?_ (by omega)
  · intro rec r hr
    obtain ⟨k, e1, e2⟩ := pq_hRelay (fu := fu) h hr hf (pqHr fu n br cl op pu dr cg inp mot h0 r)
    simp (disch := omega) only [F_X4_mixesRelays_L2, pq_rd0, h.2.1.2.1, Option.bind_some, nI_leI, show ¬ n ≤ r by omega, ↓reduceIte, e2, nI_1]
    show _ = rec _ (Option.getD (F_X3_hashOfRelay fu (nI n) inp mot br cl op pu dr cg (pqHr fu n br cl op pu dr cg inp mot h0 r) (nI r)) 0)
    rw [e1]
    rfl
  · intro rec
    simp (disch := omega) only [F_X4_mixesRelays_L2, pq_rd0, h.2.1.2.1, Option.bind_some, nI_leI, Nat.le_refl, ↓reduceIte, F_X4_mixesRelays_E92]
theorem pq_hRelays1 {fu n : Nat} {b : Nat → Nat} {br cl op pu dr cg s : Nat → Int32} {inp mot tk ch : Int32} (h : pqLad n b br cl op pu dr cg inp mot tk ch s) (hf : 4096 ≤ fu) (h0 : Int64) (kk) : zlp2 (F_X3_digest_L33 fu br cg cl dr inp mot op pu (nI n) kk) fu h0 (0 : Int32) = kk (pqHr fu n br cl op pu dr cg inp mot h0 n) (nI n) := by
  have hn := h.1.1
  refine zlp_r2 (fun r => pqHr fu n br cl op pu dr cg inp mot h0 r) (fun r => nI r) n ?_ ?_ (by omega)
  · intro rec r hr
    obtain ⟨k, e1, e2⟩ := pq_hRelay (fu := fu) h hr hf (pqHr fu n br cl op pu dr cg inp mot h0 r)
    simp (disch := omega) only [F_X3_digest_L33, nI_leI, show ¬ n ≤ r by omega, ↓reduceIte, e1, Option.bind_some, nI_1]
    show _ = rec (Option.getD (F_X3_hashOfRelay fu (nI n) inp mot br cl op pu dr cg (pqHr fu n br cl op pu dr cg inp mot h0 r) (nI r)) 0) _
    rw [e1]
    rfl
  · intro rec
    simp (disch := omega) only [F_X3_digest_L33, nI_leI, Nat.le_refl, ↓reduceIte]
