abbrev pqKT : Type := Int64 × Int32 × Int32 × Int32 × Int32 × Int32 × Int32 × Int32 × Int32 × Int32 × Int32 × Int32 × Int32 × Int32 × Int64 × (Nat → Int32) × (Nat → Int32) × (Nat → Int32) × (Nat → Int32) × (Nat → Int32) × (Nat → Int32)
theorem pq_E70 (r : pqFT) (h : Int64) : ∃ x : pqGT, F_X3_hashOfRace_E70 r h 3 = some x ∧ x.1 = h ∧ x.2.1 = r.1 ∧ x.2.2.1 = r.2.1 ∧ x.2.2.2.2.2.2.2.2.2.2.2.2.2.2.2.2.2.2.2.2.2.2.2.2.2.1 = r.2.2.2.2.2.2.2.2.2.2.2.2.2.2.2.2.2.2.2.2.2.2.2.2.1 ∧ x.2.2.2.2.2.2.2.2.2.2.2.2.2.2.2.2.2.2.2.2.2.2.2.2.2.2 = r.2.2.2.2.2.2.2.2.2.2.2.2.2.2.2.2.2.2.2.2.2.2.2.2.2 := by
  unfold F_X3_hashOfRace_E70
  exact ⟨_, rfl, rfl, rfl, rfl, rfl, rfl⟩
theorem pq_E137 (r : pqGT) (y : Int32 × Int32 × Int32 × Int32 × Int32 × Int32 × (Nat → Int32) × (Nat → Int32) × (Nat → Int32) × (Nat → Int32) × (Nat → Int32) × (Nat → Int32)) (h : Int64) (i : Int32) : ∃ x : pqGT, F_X3_digest_E137 r y h i = some x ∧ x.1 = h ∧ x.2.1 = r.2.1 ∧ x.2.2.1 = r.2.2.1 ∧ x.2.2.2.2.2.2.2.2.2.2.2.2.2.2.2.2.2.2.2.2.2.2.2.2.2.1 = r.2.2.2.2.2.2.2.2.2.2.2.2.2.2.2.2.2.2.2.2.2.2.2.2.2.1 ∧ x.2.2.2.2.2.2.2.2.2.2.2.2.2.2.2.2.2.2.2.2.2.2.2.2.2.2 = r.2.2.2.2.2.2.2.2.2.2.2.2.2.2.2.2.2.2.2.2.2.2.2.2.2.2 := by
  unfold F_X3_digest_E137
  exact ⟨_, rfl, rfl, rfl, rfl, rfl, rfl⟩
theorem pq_E91 (v4 : pqMT) (h : Int64) (i : Int32) : ∃ m : pqKT, F_X4_digest_E91 v4 i h = some m ∧ m.1 = h ∧ m.2.1 = 0 := by
  unfold F_X4_digest_E91
  exact ⟨_, rfl, rfl, rfl⟩
theorem pq_L109 {fu l : Nat} {sg : Nat → Int32} (hl : l ≤ 60) (hf : 4096 ≤ fu) (h : Int64) (kk) : zlp2 (F_X3_digest_L109 (nI l) sg kk) fu h (0 : Int32) = kk (pqHh sg h l) (nI l) := by
  refine zlp_r2 (fun i => pqHh sg h i) (fun i => nI i) l ?_ ?_ (by omega)
  · intro rec i hi
    simp (disch := omega) only [F_X3_digest_L109, nI_leI, show ¬ l ≤ i by omega, ↓reduceIte, pq_rd, Option.bind_some, nI_1, pqHh]
  · intro rec
    simp (disch := omega) only [F_X3_digest_L109, nI_leI, Nat.le_refl, ↓reduceIte]
theorem pqHh_cong {v w : Nat → Int32} {h : Int64} : ∀ l, (∀ i, i < l → v i = w i) → pqHh v h l = pqHh w h l
  | 0, _ => rfl
  | l + 1, e => by
    unfold pqHh
    rw [pqHh_cong l (fun i hi => e i (by omega)), e l (by omega)]
theorem pq_L66 {fu l : Nat} {tx : Nat → Int32} (hl : l ≤ 60) (hf : 4096 ≤ fu) (h : Int64) (kk) : zlp2 (F_X4_digest_L66 fu (nI l) tx kk) fu (0 : Int32) h = kk (nI l) (pqHh tx h l) := by
  refine zlp_r2 (fun i => nI i) (fun i => pqHh tx h i) l ?_ ?_ (by omega)
  · intro rec i hi
    simp (disch := omega) only [F_X4_digest_L66, nI_leI, show ¬ l ≤ i by omega, ↓reduceIte, pq_rd, F_X4_mixes, Option.bind_some, nI_1, pqHh]
  · intro rec
    simp (disch := omega) only [F_X4_digest_L66, nI_leI, Nat.le_refl, ↓reduceIte]
theorem pq_L6 {fu n : Nat} {br cl op nv : Nat → Int32} {inp mot tk ch sv : Int32} (hn1 : ∀ i, F_X3_numberOf fu sv (nI n) inp mot tk ch br cl op (nI i) = some (nv i)) (hf : 4096 ≤ fu) (h : Int64) (kk) : zlp2 (F_X3_digest_L6 fu br ch cl inp mot op (nI n) tk sv kk) fu h (0 : Int32) = kk (pqHh nv h 10) (nI 10) := by
  refine zlp_r2 (fun i => pqHh nv h i) (fun i => nI i) 10 ?_ ?_ (by omega)
  · intro rec i hi
    simp (disch := omega) only [F_X3_digest_L6, show ¬ (10 : Int32) ≤ nI i from nI_ge (b := 10) hi (by omega), ↓reduceIte, hn1, Option.bind_some, nI_1, pqHh]
  · intro rec
    rw [F_X3_digest_L6, if_pos (show (10 : Int32) ≤ nI 10 by decide)]
theorem pq_L14 {fu : Nat} {s nv : Nat → Int32} {sv : Int32} (hn2 : ∀ i, F_X4_counts fu sv s (nI i) = some (nv i)) (hf : 4096 ≤ fu) (h : Int64) (kk) : zlp2 (F_X4_digest_L14 fu s sv kk) fu (0 : Int32) h = kk (nI 10) (pqHh nv h 10) := by
  refine zlp_r2 (fun i => nI i) (fun i => pqHh nv h i) 10 ?_ ?_ (by omega)
  · intro rec i hi
    simp (disch := omega) only [F_X4_digest_L14, show ¬ (10 : Int32) ≤ nI i from nI_ge (b := 10) hi (by omega), ↓reduceIte, hn2, F_X4_mixes, Option.bind_some, nI_1, pqHh]
  · intro rec
    rw [F_X4_digest_L14, if_pos (show (10 : Int32) ≤ nI 10 by decide)]
theorem pq_digest {fu n : Nat} {b : Nat → Nat} {br cl op pu dr cg : Nat → Int32} {inp mot tk ch rk ck sv len rl : Int32} {s ra ca sg tx : Nat → Int32} (h : pqLad n b br cl op pu dr cg inp mot tk ch s) (hk : rk = 0 ∨ rk = 1 ∧ pqRA fu s ra) (hck : ck = 0 ∨ ck = 1 ∧ pqCA fu s ca) (ht : pqTxt len sg rl tx) (hf : 4096 ≤ fu) (r9 i9 m9 t9 h9 : Int32) (b9 cl9 op9 pu9 dr9 cg9 : Nat → Int32) (w1 : Int64) (w2 w3 w4 : Int32) (w5 w6 w7 w8 w9 w10 w11 : Nat → Int32) (thr0 c0 d0 ms0 it0 re0 le0 mo0 iw0 en0 x0 x1 x2 : Int32) (ha0 : Int64) (th metR0 table0 ways0 wof0 into0 : Nat → Int32) : ∃ (r : pqGT) (m : pqKT), F_X3_digest fu sv len rk ck (nI n) inp mot tk ch br cl op pu dr cg r9 i9 m9 t9 h9 b9 cl9 op9 pu9 dr9 cg9 sg w1 w2 w3 w4 w5 w6 w7 w8 w9 w10 w11 ra ca = some r ∧ F_X4_digest fu thr0 sv rl c0 d0 ms0 it0 re0 le0 mo0 iw0 en0 x0 x1 x2 ha0 s th tx metR0 table0 ways0 wof0 into0 = some m ∧ m.1 = r.1 ∧ m.2.1 = 0 ∧ (r.2.1 = 0 ∨ r.2.1 = 1 ∧ pqRA fu s r.2.2.2.2.2.2.2.2.2.2.2.2.2.2.2.2.2.2.2.2.2.2.2.2.2.1) ∧ (r.2.2.1 = 0 ∨ r.2.2.1 = 1 ∧ pqCA fu s r.2.2.2.2.2.2.2.2.2.2.2.2.2.2.2.2.2.2.2.2.2.2.2.2.2.2) := by
  have hn6 := h.1.1
  have hnv := fun i => pq_gd (pq_num (fu := fu) (sv := sv) h hf (nI i))
  generalize hnd : (fun i : Nat => (F_X3_numberOf fu sv (nI n) inp mot tk ch br cl op (nI i)).getD 0) = nv
  have hn1 : ∀ i, F_X3_numberOf fu sv (nI n) inp mot tk ch br cl op (nI i) = some (nv i) := fun i => by rw [← hnd]; exact (hnv i).1
  have hn2 : ∀ i, F_X4_counts fu sv s (nI i) = some (nv i) := fun i => by rw [← hnd]; exact (hnv i).2
  clear hnv hnd
  obtain ⟨l, hl, rfl, rfl, htx⟩ := ht
  have e3 := pq_L6 (fu := fu) hn1 hf 2843
  have e4 := pq_hRelays1 (fu := fu) h hf (pqHh nv 2843 10)
  have e5 := pq_L14 (fu := fu) hn2 hf 2843
  have e6 := pq_hRelays2 (fu := fu) h hf (pqHh nv 2843 10)
  unfold F_X3_digest F_X4_digest
  rw [e3, e5, F_X3_digest_E31, e4, F_X4_digest_E36, e6, Option.bind_some]
  clear e3 e4 e5 e6
  generalize pqHr fu n br cl op pu dr cg inp mot (pqHh nv 2843 10) n = H
  obtain ⟨q1, q2, q3, q4, q5, g1, g2, g3, g4, g5, g6, eL⟩ := pq_hLeads1 (fu := fu) h hf H r9 i9 m9 t9 h9 b9 cl9 op9 pu9 dr9 cg9
  obtain ⟨ra2, r, eR, hra, hk1, hk2, hk3⟩ := pq_hRace1 (fu := fu) h hk hck hf (pqHh (pqLv fu s) H 8) q1 q2 q3 q4 q5 g1 g2 g3 g4 g5 g6 w1 w2 w3 w4 w5 w6 w7 w8 w9 w10 w11
  obtain ⟨y, ey, y1, y2, y3, y4, y5⟩ := pq_E70 r (pqHh r.2.2.2.2.2.2.2.2.2.2.2.2.2.2.2.2.2.2.2.2.2.2.2.2.2 (pqHh ra2 (pqHh (pqLv fu s) H 8) 5) 3)
  rw [ey] at eR
  rw [← y2, ← y4] at hk1
  rw [← y3] at hk2
  rw [← y5] at hk3 y1
  clear ey y2 y3 y4 y5
  obtain ⟨v, j1, j2, j3, j4, j5, z1, z2, z3, z4, z5, z6, eH, m, eM, hm⟩ := pq_hWays2 (fu := fu) h hf hra hk3 H c0 d0 ms0 it0 re0 le0 mo0 iw0 en0 x0 x1 x2 th metR0 table0 ways0 wof0 into0 y.2.2.2.1 y.2.2.2.2.1 y.2.2.2.2.2.1 y.2.2.2.2.2.2.1 y.2.2.2.2.2.2.2.1 y.2.2.2.2.2.2.2.2.1 y.2.2.2.2.2.2.2.2.2.1 y.2.2.2.2.2.2.2.2.2.2.1 y.2.2.2.2.2.2.2.2.2.2.2.1 y.2.2.2.2.2.2.2.2.2.2.2.2.1 y.2.2.2.2.2.2.2.2.2.2.2.2.2.1
  obtain ⟨c, hc, eS1, eS2⟩ := pq_share (fu := fu) h hf
  have eB := pq_bits (fu := fu) hn6 hc hf
  have eD : F_Jxe99ae_doubleToLongBits_ccdee fu (pqV n c) = some (pqV n c).toInt64 := (pq_v1 n (by omega) c (by omega) hc).2
  rw [← y1] at hm
  obtain ⟨x, ex, a1, a2, a3, a4, a5⟩ := pq_E137 y (v, j1, j2, j3, j4, j5, z1, z2, z3, z4, z5, z6) (pqHh sg (31 * (31 * (31 * y.1 + v.toInt64) + (pqV n c).toInt64) + (nI l).toInt64) l) (nI l)
  obtain ⟨x4, ex4, b1, b2⟩ := pq_E91 m (pqHh tx (31 * (31 * (31 * y.1 + v.toInt64) + (pqV n c).toInt64) + (nI l).toInt64) l) (nI l)
  refine ⟨x, x4, ?_, ?_, ?_, b2, ?_, ?_⟩
  · rw [F_X3_digest_E57, eL, Option.bind_some]
    show (F_X3_hashOfRace fu rk ck (nI n) inp mot tk ch br cl op pu dr cg q1 q2 q3 q4 q5 g1 g2 g3 g4 g5 g6 w1 w2 w3 w4 w5 w6 w7 w8 w9 w10 w11 ra ca (pqHh (pqLv fu s) H 8)).bind _ = _
    rw [eR, Option.bind_some, eH, Option.bind_some, eS1, Option.bind_some, eB, Option.bind_some, Option.bind_some, pq_L109 hl hf]
    exact ex
  · rw [eM, Option.bind_some, eS2, Option.bind_some, eD, Option.bind_some, F_X4_mixes, Option.bind_some, F_X4_mixes, Option.bind_some, pq_L66 hl hf, hm]
    exact ex4
  · rw [b1, a1, pqHh_cong l (fun i hi => (htx i hi).1)]
  · rw [a2, a4]
    exact hk1
  · rw [a3, a5]
    exact Or.inr ⟨hk2, hk3⟩
