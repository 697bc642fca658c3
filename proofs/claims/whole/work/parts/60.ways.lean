/-! Going on from one state: class and reference side by side. -/
theorem pqIn_le {P : Nat → Int32 → Prop} {f c c2 : Nat} {y : pqYT} {w : pqWT} (h : pqIn P f c y w) (hc : c ≤ c2) : pqIn P f c2 y w := by
  obtain ⟨m, o, tg, h1, h2, h3, h4, hS⟩ := h
  exact ⟨m, o, tg, h1, h2, h3, by omega, hS⟩
theorem pq_singles {fu f n : Nat} {P : Nat → Int32 → Prop} {co du : Int32} {rests : Int64} {v4 : Int32 × (Nat → Int32)} (hn : n ≤ 6) (hdu : ∀ i, i < 32 → n ≤ i → bt du i = false) (hco : pqZ n co) (hP : ∀ k code, f < k → pqZ n code → P k code) (h2 : ¬ pqOn du 16 ≤ 1) (hf3 : f < 300) (hf : 4096 ≤ fu) : ∀ (j r : Nat), r + j = 6 → ∀ (y : pqYT) (w : pqWT) (c : Nat), (pqIn P f c y w ∨ pqOv f y w) → c ≤ r + 1 → ∀ (c0 : Int32) (fc fr : Nat), j < fc → j < fr → ∃ (y2 : pqYT) (w2 : pqWT) (c1 : Int32), zlp7 (F_X2_goOn_L95 fu (nI n) (nI f) co du (F_X2_goOn_E135 rests v4)) fc (nI r) y.1 y.2.1 y.2.2.1 y.2.2.2.1 y.2.2.2.2.1 y.2.2.2.2.2 = some (rests, y2.1, y2.2.1, y2.2.2.1, y2.2.2.2.1, y2.2.2.2.2.1, y2.2.2.2.2.2, v4.2) ∧ zlp8 (F_X4_laysWays_s_L48 fu (nI f) (co, du) (F_X4_laysWays_s_E100 (co, du))) fr (nI r) c0 w.1 w.2.1 w.2.2.1 w.2.2.2.1 w.2.2.2.2.1 w.2.2.2.2.2 = some (c1, du, w2.1, w2.2.1, w2.2.2.1, w2.2.2.2.1, w2.2.2.2.2.1, w2.2.2.2.2.2) ∧ (pqIn P f 7 y2 w2 ∨ pqOv f y2 w2) := by
  have hcl : ∀ (q r : Nat) (y : pqYT), n ≤ r → r ≤ 6 → zlp7 (F_X2_goOn_L95 fu (nI n) (nI f) co du (F_X2_goOn_E135 rests v4)) (q + 1) (nI r) y.1 y.2.1 y.2.2.1 y.2.2.2.1 y.2.2.2.2.1 y.2.2.2.2.2 = some (rests, y.1, y.2.1, y.2.2.1, y.2.2.2.1, y.2.2.2.2.1, y.2.2.2.2.2, v4.2) := by
    intro q r y h1 h3
    rw [zlp_s7]
    simp (disch := omega) only [F_X2_goOn_L95, nI_leI, h1, ↓reduceIte, F_X2_goOn_E135]
  intro j
  induction j with
  | zero =>
    intro r hr y w c h hc c0 fc fr hfc hfr
    obtain rfl : r = 6 := by omega
    obtain ⟨fc, rfl⟩ : ∃ q, fc = q + 1 := ⟨fc - 1, by omega⟩
    obtain ⟨fr, rfl⟩ : ∃ q, fr = q + 1 := ⟨fr - 1, by omega⟩
    refine ⟨y, w, c0, hcl fc 6 y hn (Nat.le_refl _), ?_, h.imp (fun z => pqIn_le z (by omega)) id⟩
    rw [zlp_s8]
    simp only [F_X4_laysWays_s_L48, show (6 : Int32) ≤ nI 6 by decide, ↓reduceIte, F_X4_laysWays_s_E100]
  | succ j ih =>
    intro r hr y w c h hc c0 fc fr hfc hfr
    obtain ⟨fc, rfl⟩ : ∃ q, fc = q + 1 := ⟨fc - 1, by omega⟩
    obtain ⟨fr, rfl⟩ : ∃ q, fr = q + 1 := ⟨fr - 1, by omega⟩
    have h6 : ¬ (6 : Int32) ≤ nI r := pq_6le (by omega)
    rcases Nat.lt_or_ge r n with c1 | c1
    · by_cases c3 : bt du r = true
      · have hcode := pqCh_Z (n := n) (co := co) (set := (1 : Int32) <<< (nI r &&& (31 : Int32))) hco (fun i hi hni => by rw [b_one (by omega) hi, decide_eq_false (by omega)]) n
        obtain ⟨y2, w2, g1, g2, g3⟩ := pq_go (fu := fu) h (fun k hk => hP k _ hk hcode) (by omega) hf3 hf
        obtain ⟨y3, w3, c4, k1, k2, k3⟩ := ih (r + 1) (by omega) y2 w2 (c + 1) g3 (by omega) co fc fr (by omega) (by omega)
        refine ⟨y3, w3, c4, ?_, ?_, k3⟩
        · rw [zlp_s7]
          simp (disch := omega) only [F_X2_goOn_L95, nI_leI, show ¬ n ≤ r by omega, ↓reduceIte, pq_isIn, c3, Option.bind_some, pq_10, pq_turned hn hf, g1, nI_1]
          exact k1
        · rw [zlp_s8]
          have hch : F_X4_changed fu co ((1 : Int32) <<< (nI r &&& (31 : Int32))) = some (pqCh co ((1 : Int32) <<< (nI r &&& (31 : Int32))) n) := pq_changed hn (fun i hi hni => by rw [b_one (by omega) hi, decide_eq_false (by omega)]) hf
          simp (disch := omega) only [F_X4_laysWays_s_L48, h6, ↓reduceIte, pq_ones, Option.bind_some, h2, pq_bit1, c3, hch, g2, nI_1]
          exact k2
      · obtain ⟨y3, w3, c4, k1, k2, k3⟩ := ih (r + 1) (by omega) y w c h (by omega) co fc fr (by omega) (by omega)
        refine ⟨y3, w3, c4, ?_, ?_, k3⟩
        · rw [zlp_s7]
          simp (disch := omega) only [F_X2_goOn_L95, nI_leI, show ¬ n ≤ r by omega, ↓reduceIte, pq_isIn, c3, Bool.false_eq_true, Option.bind_some, nI_1]
          exact k1
        · rw [zlp_s8]
          simp (disch := omega) only [F_X4_laysWays_s_L48, h6, ↓reduceIte, pq_ones, Option.bind_some, h2, pq_bit1, c3, Bool.false_eq_true, nI_1]
          exact k2
    · have c3 : bt du r = false := hdu r (by omega) c1
      obtain ⟨y3, w3, c4, k1, k2, k3⟩ := ih (r + 1) (by omega) y w c h (by omega) co fc fr (by omega) (by omega)
      refine ⟨y3, w3, c4, ?_, ?_, k3⟩
      · rw [hcl fc r y c1 (by omega)]
        obtain ⟨fc, rfl⟩ : ∃ q, fc = q + 1 := ⟨fc - 1, by omega⟩
        rw [hcl fc (r + 1) y (by omega) (by omega)] at k1
        exact k1
      · rw [zlp_s8]
        simp (disch := omega) only [F_X4_laysWays_s_L48, h6, ↓reduceIte, pq_ones, Option.bind_some, h2, pq_bit1, c3, Bool.false_eq_true, nI_1]
        exact k2
/-- what is kept of who is called -/
def pqCa (n : Nat) (b : Nat → Nat) (cl op : Nat → Int32) (inp : Int32) (cal : Nat → Int32) : Prop := ∀ u, u < 64 → cal u = -1 ∨ cal u = pqC b cl op (inp ||| (nI u <<< ((4 : Int32) &&& (31 : Int32)))) n
theorem pq_calledWith {fu n u : Nat} {b : Nat → Nat} {br cl op cal : Nat → Int32} {inp : Int32} (hb : pqB n b br) (hc : pqCa n b cl op inp cal) (hu : u < 64) (hf : 4096 ≤ fu) : ∃ cal2, F_X2_calledWith fu cal (nI n) inp br cl op (nI u) = some (pqC b cl op (inp ||| (nI u <<< ((4 : Int32) &&& (31 : Int32)))) n, cal2) ∧ pqCa n b cl op inp cal2 := by
  unfold F_X2_calledWith
  rw [pq_rd hu (by omega), Option.bind_some]
  by_cases z : cal u = -1
  · rw [if_pos z, pq_calledBy hb.1 hb.2 hf, Option.bind_some, pq_wr hu (by omega), Option.bind_some]
    unfold F_X2_calledWith_J28
    rw [pq_rd hu (by omega), pk_us]
    refine ⟨_, rfl, fun v hv => ?_⟩
    by_cases c : v = u
    · rw [c, pk_us]
      exact Or.inr rfl
    · rw [pk_un c]
      exact hc v hv
  · rw [if_neg z]
    unfold F_X2_calledWith_J28
    rw [pq_rd hu (by omega), (hc u hu).resolve_left z]
    exact ⟨_, rfl, hc⟩
/-- the states from 0 on, f of them gone on from -/
def pqTo (P : Nat → Int32 → Prop) (f : Nat) (y : pqYT) (w : pqWT) : Prop := ∃ m o tg, y.1 = nI m ∧ y.2.1 = 1 ∧ w.1 = nI m ∧ pqSy P m f o tg y.2.2.1 y.2.2.2.1 y.2.2.2.2.1 y.2.2.2.2.2 w.2.1 w.2.2.1 w.2.2.2.1 w.2.2.2.2.1 w.2.2.2.2.2
def pqEnd (y : pqYT) (w : pqWT) : Prop := y.2.1 = 0 ∧ w.1 = nI 301
theorem pq_2le {x : Int32} (h : ∃ k, k ≤ 16 ∧ x = nI k) : ((2 : Int32) ≤ x) ↔ ¬ x ≤ 1 := by
  obtain ⟨k, hk, rfl⟩ := h
  show nI 2 ≤ nI k ↔ ¬ nI k ≤ nI 1
  rw [nI_leI (by omega) (by omega), nI_leI (by omega) (by omega)]
  omega
theorem pq_goOn {fu f m n : Nat} {b : Nat → Nat} {br cl op pu dr s cal : Nat → Int32} {inp c0 d0 : Int32} {rests : Int64} {y : pqYT} {w : pqWT} (hb : pqB n b br) (hR : pqR n b cl op pu dr inp s) (h : pqTo (fun _ c => pqZ n c) f y w) (hy : y.1 = nI m) (hm3 : m ≤ 300) (hfm : f < m) (hc : pqCa n b cl op inp cal) (hf : 4096 ≤ fu) : ∃ (y2 : pqYT) (w2 : pqWT) (c1 d1 : Int32) (cal2 : Nat → Int32), F_X2_goOn fu rests y.1 y.2.1 y.2.2.1 y.2.2.2.1 y.2.2.2.2.1 y.2.2.2.2.2 cal (nI n) inp br cl dr op pu (nI f) = some ((if pqU n b cl op inp (y.2.2.1 f) = 0 then rests ||| ((1 : Int64) <<< ((y.2.2.1 f &&& (63 : Int32)).toInt64 &&& 63)) else rests), y2.1, y2.2.1, y2.2.2.1, y2.2.2.2.1, y2.2.2.2.2.1, y2.2.2.2.2.2, cal2) ∧ F_X4_laysWays_s fu c0 d0 w.1 s w.2.1 w.2.2.1 w.2.2.2.1 w.2.2.2.2.1 w.2.2.2.2.2 (nI f) = some (c1, d1, w2.1, w2.2.1, w2.2.2.1, w2.2.2.2.1, w2.2.2.2.2.1, w2.2.2.2.2.2) ∧ pqCa n b cl op inp cal2 ∧ ((pqTo (fun _ c => pqZ n c) (f + 1) y2 w2 ∧ ∀ k, k ≤ f → y2.2.2.1 k = y.2.2.1 k) ∨ pqEnd y2 w2) := by
  obtain ⟨y1, y2, metC, slots, outs, out⟩ := y
  obtain ⟨w1, metR, table, ways, wof, into⟩ := w
  obtain ⟨m2, o, tg, h1, h2, h3, hS⟩ := h
  simp only at h1 h2 h3 hS hy ⊢
  subst h1 h2 h3
  have hmm : m2 ≤ 300 := hS.1
  obtain rfl : m2 = m := (nI_eq (by omega) (by omega)).mp hy
  obtain ⟨hm, hfm2, hH1, hH2, hE, hPm⟩ := hS
  obtain ⟨e1, e2, e3, e4, e5, e6, e7, e8⟩ := hE
  have hn := hb.1
  have hz : pqZ n (metC f) := hPm f hfm
  obtain ⟨u, hu, eu⟩ := pk_andE (metC f) (m := (63 : Int32)) 6 (by decide)
  have hu : u < 64 := hu
  obtain ⟨cal2, ecal, hcal⟩ := pq_calledWith (fu := fu) hb hc hu hf
  have hU : pqC b cl op (inp ||| (nI u <<< ((4 : Int32) &&& (31 : Int32)))) n ^^^ nI u = pqU n b cl op inp (metC f) := by
    unfold pqU
    rw [eu]
  have hmR : metR f = metC f := (e1 f hfm).symm
  have hIn : pqIn (fun k c => pqZ n c ∧ (k ≤ f → c = metC k)) f 0 (nI m2, 1, metC, slots, upd outs f 0, out) (nI m2, metR, table, ways, wof, into) := by
    refine ⟨m2, o, tg, rfl, rfl, rfl, Nat.le_of_eq (e4 f (Nat.le_refl _)), hm, by omega, hH1, hH2, ⟨e1, fun g hg => ?_, e3, fun g hg => e4 g (by omega), e5, fun g hg k hk => ?_, e7, fun g hg k hk => ?_⟩, fun k hk => ⟨hPm k hk, fun _ => rfl⟩⟩
    · show upd outs f 0 g = nI (o g)
      by_cases c : g = f
      · rw [c, pk_us, e4 f (Nat.le_refl _)]
        rfl
      · rw [pk_un c]
        exact e2 g (by omega)
    · by_cases c : g = f
      · rw [c, e4 f (Nat.le_refl _)] at hk
        omega
      · exact e6 g (by omega) k hk
    · by_cases c : g = f
      · rw [c, e4 f (Nat.le_refl _)] at hk
        omega
      · exact e8 g (by omega) k hk
  have fin : ∀ (y2 : pqYT) (w2 : pqWT), (pqIn (fun k c => pqZ n c ∧ (k ≤ f → c = metC k)) f 7 y2 w2 ∨ pqOv f y2 w2) → ((pqTo (fun _ c => pqZ n c) (f + 1) y2 w2 ∧ ∀ k, k ≤ f → y2.2.2.1 k = metC k) ∨ pqEnd y2 w2) := by
    intro y2 w2 q
    rcases q with ⟨m3, o3, tg3, q1, q2, q3, q4, q5⟩ | ⟨q1, q2, q3, q4, q5⟩
    · left
      obtain ⟨r1, r2, r3, r4, r5, r6⟩ := q5
      exact ⟨⟨m3, o3, tg3, q1, q2, q3, r1, r2, r3, r4, r5, fun k hk => (r6 k hk).1⟩, fun k hk => (r6 k (by omega)).2 hk⟩
    · exact Or.inr ⟨q2, q5⟩
  by_cases q : pqU n b cl op inp (metC f) = 0
  · refine ⟨(nI m2, 1, metC, slots, upd outs f 0, out), (nI m2, metR, table, ways, wof, into), c0, d0, cal2, ?_, ?_, hcal, fin _ _ (Or.inl (pqIn_le hIn (by omega)))⟩
    · simp (disch := omega) only [F_X2_goOn, pq_wr, pq_rd, Option.bind_some, F_X0_upIn, eu, ecal, hU, q, ↓reduceIte]
    · simp (disch := omega) only [F_X4_laysWays_s, pq_rd, hmR, pq_isQuiet hR hf, q, ↓reduceIte, Option.bind_some, pq_10]
  · have hcode := pqG_Z (b := b) (cl := cl) (op := op) (pu := pu) (dr := dr) (inp := inp) hn hz
    obtain ⟨y3, w3, g1, g2, g3⟩ := pq_go (fu := fu) (code := pqG n b cl op pu dr inp (metC f)) (Or.inl hIn) (fun k hk => ⟨hcode, fun z => absurd z (by omega)⟩) (by omega) (by omega) hf
    simp only at g1 g2
    have hdu : ∀ i, i < 32 → n ≤ i → bt (pqDd n b cl op pu dr inp (metC f)) i = false := fun i hi hni => pqDd_bits hi hni
    have hbc := pq_bcb (fu := fu) (x := pqDd n b cl op pu dr inp (metC f)) (fun i h hi => pqDd_bits hi (by omega))
    have hcl : F_X2_goOn fu rests (nI m2) 1 metC slots outs out cal (nI n) inp br cl dr op pu (nI f) = (if (2 : Int32) ≤ pqOn (pqDd n b cl op pu dr inp (metC f)) 16 then zlp7 (F_X2_goOn_L95 fu (nI n) (nI f) (pqCo (metC f) (pqU n b cl op inp (metC f)) n) (pqDd n b cl op pu dr inp (metC f)) (F_X2_goOn_E135 rests (pqC b cl op (inp ||| (nI u <<< ((4 : Int32) &&& (31 : Int32)))) n, cal2))) fu (nI 0) y3.1 y3.2.1 y3.2.2.1 y3.2.2.2.1 y3.2.2.2.2.1 y3.2.2.2.2.2 else some (rests, y3.1, y3.2.1, y3.2.2.1, y3.2.2.2.1, y3.2.2.2.2.1, y3.2.2.2.2.2, cal2)) := by
      unfold F_X2_goOn
      rw [pq_wr (by omega) (by omega), Option.bind_some, pq_rd (by omega) (by omega), Option.bind_some]
      simp only [F_X0_upIn, eu, ecal, Option.bind_some, hU, q, ↓reduceIte]
      rw [pq_counted hn hz hf, Option.bind_some, pq_dueIn hn hf, Option.bind_some, pq_turned hn hf, Option.bind_some]
      have g1' : F_X2_goTo fu (nI m2) 1 metC slots (upd outs f 0) out (nI f) (pqCh (pqCo (metC f) (pqU n b cl op inp (metC f)) n) (pqDu (metC f) (pqU n b cl op inp (metC f)) pu dr n) n) = some y3 := g1
      rw [g1', Option.bind_some]
      have hbc' : F_J6_bitCount_0f7a4 fu (pqDu (metC f) (pqU n b cl op inp (metC f)) pu dr n) = some (pqOn (pqDd n b cl op pu dr inp (metC f)) 16) := hbc
      rw [hbc', Option.bind_some]
      rfl
    have hrf : F_X4_laysWays_s fu c0 d0 (nI m2) s metR table ways wof into (nI f) = zlp8 (F_X4_laysWays_s_L48 fu (nI f) (pqCo (metC f) (pqU n b cl op inp (metC f)) n, pqDd n b cl op pu dr inp (metC f)) (F_X4_laysWays_s_E100 (pqCo (metC f) (pqU n b cl op inp (metC f)) n, pqDd n b cl op pu dr inp (metC f)))) fu (nI 0) (pqCo (metC f) (pqU n b cl op inp (metC f)) n) w3.1 w3.2.1 w3.2.2.1 w3.2.2.2.1 w3.2.2.2.2.1 w3.2.2.2.2.2 := by
      unfold F_X4_laysWays_s
      rw [pq_rd (by omega) (by omega), Option.bind_some, hmR, pq_isQuiet hR hf, Option.bind_some, if_neg q, if_pos rfl, pq_ticks hR hf, Option.bind_some]
      have hch : F_X4_changed fu (pqCo (metC f) (pqU n b cl op inp (metC f)) n, pqDu (metC f) (pqU n b cl op inp (metC f)) pu dr n).1 (pqCo (metC f) (pqU n b cl op inp (metC f)) n, pqDu (metC f) (pqU n b cl op inp (metC f)) pu dr n).2 = some (pqG n b cl op pu dr inp (metC f)) := pq_changed hn hdu hf
      rw [hch, Option.bind_some, g2, Option.bind_some]
      rfl
    rw [hcl, hrf, if_neg q]
    by_cases c2 : (2 : Int32) ≤ pqOn (pqDd n b cl op pu dr inp (metC f)) 16
    · rw [if_pos c2]
      obtain ⟨y4, w4, c4, k1, k2, k3⟩ := pq_singles (fu := fu) (f := f) (n := n) (P := fun k c => pqZ n c ∧ (k ≤ f → c = metC k)) (co := pqCo (metC f) (pqU n b cl op inp (metC f)) n) (du := pqDd n b cl op pu dr inp (metC f)) (rests := rests) (v4 := (pqC b cl op (inp ||| (nI u <<< ((4 : Int32) &&& (31 : Int32)))) n, cal2)) hn hdu (pqCo_Z hn hz) (fun k code hk hzc => ⟨hzc, fun z => absurd z (by omega)⟩) ((pq_2le (pqOn_n _ 16 (by omega))).mp c2) (by omega) hf 6 0 (by omega) y3 w3 1 g3 (by omega) (pqCo (metC f) (pqU n b cl op inp (metC f)) n) fu fu (by omega) (by omega)
      exact ⟨y4, w4, c4, _, cal2, k1, k2, hcal, fin _ _ k3⟩
    · rw [if_neg c2]
      refine ⟨y3, w3, pqCo (metC f) (pqU n b cl op inp (metC f)) n, pqDd n b cl op pu dr inp (metC f), cal2, rfl, ?_, hcal, fin _ _ (g3.imp (fun z => pqIn_le z (by omega)) id)⟩
      obtain ⟨g, rfl⟩ : ∃ g, fu = g + 1 := ⟨fu - 1, by omega⟩
      have c3 : pqOn (pqDd n b cl op pu dr inp (metC f)) 16 ≤ 1 := Decidable.not_not.mp (fun z => c2 ((pq_2le (pqOn_n _ 16 (by omega))).mpr z))
      rw [zlp_s8]
      simp (disch := omega) only [F_X4_laysWays_s_L48, pq_6le, ↓reduceIte, pq_ones, Option.bind_some, c3, F_X4_laysWays_s_E100]
