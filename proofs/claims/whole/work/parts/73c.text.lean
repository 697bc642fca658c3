/-! Texts: a branch read by both. -/
theorem pq_J71 {fu l q : Nat} {rec : Int32 → Int32 → (Nat → Int32) → Option (Int32 × Int32 × (Nat → Int32))} {tx R : Nat → Int32} {x : Nat → Nat} {v1 w : Int32} (h : pqCs l tx x) (hq : q ≤ l) : F_X4_readsBranch_J71 fu rec (nI l) tx v1 R w (nI q) = F_X4_readsBranch_J128 fu rec (nI l) tx v1 R w (nI q) (if q < l ∧ pqBt (x q) ≠ 99 then nI (pqBt (x q)) else -1) := by
  have s1 : F_X4_sees fu (nI l) (nI q) tx (97 : Int32) (100 : Int32) = some (if q < l ∧ 97 ≤ x q ∧ x q ≤ 100 then 1 else 0) := pq_sees (lo := 97) (hi := 100) h (by omega) (by omega) hq
  have s2 : F_X4_sees fu (nI l) (nI q) tx (48 : Int32) (53 : Int32) = some (if q < l ∧ 48 ≤ x q ∧ x q ≤ 53 then 1 else 0) := pq_sees (lo := 48) (hi := 53) h (by omega) (by omega) hq
  unfold F_X4_readsBranch_J71
  rw [s1, Option.bind_some]
  have hl := h.1
  by_cases c1 : q < l ∧ 97 ≤ x q ∧ x q ≤ 100
  · obtain ⟨e, h1, h2⟩ := h.2 q c1.1
    have hb : pqBt (x q) = x q - 97 := if_pos c1.2
    have e2 : nI (x q) - (97 : Int32) = nI (x q - 97) := pk_sub (b := 97) c1.2.1
    rw [if_pos c1, if_neg pq_10, pq_rd (by omega) (by omega), Option.bind_some, e, e2, hb, if_pos ⟨c1.1, by omega⟩]
  · rw [if_neg c1, if_pos rfl, s2, Option.bind_some]
    by_cases c2 : q < l ∧ 48 ≤ x q ∧ x q ≤ 53
    · obtain ⟨e, h1, h2⟩ := h.2 q c2.1
      have hb : pqBt (x q) = x q - 44 := by
        unfold pqBt
        rw [if_neg (by omega), if_pos c2.2]
      have e2 : (4 : Int32) + nI (x q) - (48 : Int32) = nI (x q - 44) := by
        rw [pq_4p, show (48 : Int32) = nI 48 from rfl, pk_sub (by omega)]
        congr 1
        omega
      rw [if_pos c2, if_neg pq_10, pq_rd (by omega) (by omega), Option.bind_some, e, e2, hb, if_pos ⟨c2.1, by omega⟩]
    · rw [if_neg c2, if_pos rfl, if_neg (fun z => ?_)]
      unfold pqBt at z
      rw [if_neg (fun y => c1 ⟨z.1, y⟩), if_neg (fun y => c2 ⟨z.1, y⟩)] at z
      exact z.2 rfl
theorem pq_J128 {fu l q A w g : Nat} {rec : Int32 → Int32 → (Nat → Int32) → Option (Int32 × Int32 × (Nat → Int32))} {tx R : Nat → Int32} {x : Nat → Nat} (h : pqCs l tx x) (hq : q + 1 ≤ l) (hA : A + 1 < 176) (hw : w < 2) (hg : g < 10) : ∃ mo : Int32, (mo = 1 ∧ pqGoes l x (q + 1) ∨ mo = 0 ∧ ¬ pqGoes l x (q + 1)) ∧ F_X4_readsBranch_J128 fu rec (nI l) tx (nI A) R (nI w) (nI q) (nI g) = if bt (R A ||| R (A + 1)) g = true then some (0, nI q, R) else rec mo (nI (q + 1)) (upd R (A + w) (R (A + w) ||| ((1 : Int32) <<< (nI g &&& (31 : Int32))))) := by
  have s1 : F_X4_sees fu (nI l) (nI (q + 1)) tx (33 : Int32) (33 : Int32) = some (if q + 1 < l ∧ 33 ≤ x (q + 1) ∧ x (q + 1) ≤ 33 then 1 else 0) := pq_sees (lo := 33) (hi := 33) h (by omega) (by omega) hq
  have s2 : F_X4_sees fu (nI l) (nI (q + 1)) tx (97 : Int32) (100 : Int32) = some (if q + 1 < l ∧ 97 ≤ x (q + 1) ∧ x (q + 1) ≤ 100 then 1 else 0) := pq_sees (lo := 97) (hi := 100) h (by omega) (by omega) hq
  have s3 : F_X4_sees fu (nI l) (nI (q + 1)) tx (48 : Int32) (57 : Int32) = some (if q + 1 < l ∧ 48 ≤ x (q + 1) ∧ x (q + 1) ≤ 57 then 1 else 0) := pq_sees (lo := 48) (hi := 57) h (by omega) (by omega) hq
  have hne : ¬ nI g = (-1 : Int32) := pq_ne1 (by omega)
  unfold F_X4_readsBranch_J128
  simp (disch := omega) only [hne, ↓reduceIte, pq_rd, Option.bind_some, nI_1, pq_bit1, nI_add, pq_wr, s1, s2, s3]
  by_cases c1 : q + 1 < l ∧ 33 ≤ x (q + 1) ∧ x (q + 1) ≤ 33
  · refine ⟨1, Or.inl ⟨rfl, c1.1, Or.inl (by omega)⟩, ?_⟩
    simp only [if_pos c1, pq_10, ↓reduceIte]
  · by_cases c2 : q + 1 < l ∧ 97 ≤ x (q + 1) ∧ x (q + 1) ≤ 100
    · refine ⟨1, Or.inl ⟨rfl, c2.1, Or.inr (Or.inl c2.2)⟩, ?_⟩
      simp only [if_neg c1, if_pos c2, pq_10, ↓reduceIte]
    · by_cases c3 : q + 1 < l ∧ 48 ≤ x (q + 1) ∧ x (q + 1) ≤ 57
      · refine ⟨1, Or.inl ⟨rfl, c3.1, Or.inr (Or.inr c3.2)⟩, ?_⟩
        simp only [if_neg c1, if_neg c2, if_pos c3, pq_10, ↓reduceIte]
      · refine ⟨0, Or.inr ⟨rfl, fun z => ?_⟩, ?_⟩
        · rcases z.2 with y | y | y
          · exact c1 ⟨z.1, by omega, by omega⟩
          · exact c2 ⟨z.1, y⟩
          · exact c3 ⟨z.1, y⟩
        · simp only [if_neg c1, if_neg c2, if_neg c3, ↓reduceIte]
theorem pq_Jm1 {fu l q : Nat} {rec : Int32 → Int32 → (Nat → Int32) → Option (Int32 × Int32 × (Nat → Int32))} {tx R : Nat → Int32} {v1 w : Int32} : F_X4_readsBranch_J128 fu rec (nI l) tx v1 R w (nI q) (-1) = some (0, nI q, R) := by
  unfold F_X4_readsBranch_J128
  rw [if_pos rfl]
theorem pq_branchT {fu l p b A : Nat} {st0 : pqRS} {tx : Nat → Int32} {x : Nat → Nat} {k o t cu : Int32} {cl0 op0 R0 : Nat → Int32} (h : pqCs l tx x) (hb : b < 4) (hA : A + 1 < 176) (hp : p ≤ l) (hok : ∀ i, i < p → pqOk fu st0 tx i) (hs : pqSt8 fu st0 tx p = (2, k, o, t, nI b, cu, cl0, op0)) (hR1 : R0 A = 0) (hR2 : R0 (A + 1) = 0) (hf : 4096 ≤ fu) : ∃ r, zlp3 (F_X4_readsBranch_L32 fu (nI l) tx (nI A) (F_X4_readsBranch_E230)) fu (1 : Int32) (nI p) R0 = some r ∧ pqBrEnd fu st0 tx x l p b A k o t cl0 op0 R0 r := by
  have hl := h.1
  refine zlp_t3 (Q := fun (oo : Option (Int32 × Int32 × (Nat → Int32))) => ∃ r, oo = some r ∧ pqBrEnd fu st0 tx x l p b A k o t cl0 op0 R0 r) 61 (fun (i : Nat) (a1 a2 : Int32) (R : Nat → Int32) => ∃ p2, a2 = nI p2 ∧ p + i ≤ p2 ∧ p2 ≤ l ∧ (∀ i, i < p2 → pqOk fu st0 tx i) ∧ (∀ i, p ≤ i → i < p2 → x i ≠ 59) ∧ (∀ q, q ≠ A → q ≠ A + 1 → R q = R0 q) ∧ pqMk 6 (R A) ∧ pqMk 6 (R (A + 1)) ∧ (a1 = 1 ∧ pqIb fu st0 tx x l p2 b k o t cl0 op0 (R A) (R (A + 1)) ∧ (p2 = l → ¬ (pqSt8 fu st0 tx l).1 = 4 ∧ ¬ (pqSt8 fu st0 tx l).1 = 8) ∨ a1 = 0 ∧ p < p2 ∧ ¬ pqGoes l x p2 ∧ ∃ cl op, pqSt8 fu st0 tx p2 = (4, k, o, t, nI (b + 1), nI b, cl, op) ∧ R A = cl b ∧ R (A + 1) = op b ∧ ∀ q, q ≠ b → cl q = cl0 q ∧ op q = op0 q)) ?_ (by omega) _ _ _ ⟨p, rfl, by omega, hp, hok, fun i h1 h2 => absurd h2 (by omega), fun _ _ _ => rfl, ⟨0, Nat.two_pow_pos _, hR1⟩, ⟨0, Nat.two_pow_pos _, hR2⟩, Or.inl ⟨rfl, by rw [hR1, hR2]; exact pq_ib2 h hb hs, fun e => by rw [← e, hs]; exact ⟨(by decide : ¬ (2 : Int32) = 4), (by decide : ¬ (2 : Int32) = 8)⟩⟩⟩
  rintro rec i hi hrec a1 a2 R ⟨p2, e2, g1, g2, g3, g4, g5, m1, m2, g6⟩
  rw [e2]
  rcases g6 with ⟨e1, hI, hend⟩ | ⟨e1, hlt, hng, cl, op, k1, k2, k3, k4⟩
  · rw [e1]
    obtain ⟨I1, I2, I3⟩ := hI
    have hi61 : i < 61 := by omega
    -- a contact at q with w, from the reader's state there
    have fin : ∀ (q w : Nat), q ≤ l → p2 ≤ q → w < 2 → (∀ i, i < q → pqOk fu st0 tx i) → (∀ i, p ≤ i → i < q → x i ≠ 59) → (q = l → ¬ (pqSt8 fu st0 tx l).1 = 4 ∧ ¬ (pqSt8 fu st0 tx l).1 = 8) → (q < l → (pqBt (x q) = 99 ∨ bt (R A ||| R (A + 1)) (pqBt (x q)) = true) → pqBad fu st0 tx q) → (q < l → pqBt (x q) ≠ 99 → bt (R A ||| R (A + 1)) (pqBt (x q)) = false → ∃ cl op, pqOk fu st0 tx q ∧ pqSt8 fu st0 tx (q + 1) = (4, k, o, t, nI (b + 1), nI b, cl, op) ∧ cl b = upd R (A + w) (R (A + w) ||| ((1 : Int32) <<< (nI (pqBt (x q)) &&& (31 : Int32)))) A ∧ op b = upd R (A + w) (R (A + w) ||| ((1 : Int32) <<< (nI (pqBt (x q)) &&& (31 : Int32)))) (A + 1) ∧ ∀ q, q ≠ b → cl q = cl0 q ∧ op q = op0 q) → ∃ r, F_X4_readsBranch_J71 fu rec (nI l) tx (nI A) R (nI w) (nI q) = some r ∧ pqBrEnd fu st0 tx x l p b A k o t cl0 op0 R0 r := by
      intro q w hq hpq hw hok2 hns hend2 hbad hgood
      rw [pq_J71 h hq]
      by_cases c : q < l ∧ pqBt (x q) ≠ 99
      · have h10 := pqBt_10 c.2
        obtain ⟨mo, hmo, e⟩ := pq_J128 (fu := fu) (rec := rec) (R := R) (g := pqBt (x q)) h (show q + 1 ≤ l by omega) hA hw h10
        rw [if_pos c, e]
        by_cases c2 : bt (R A ||| R (A + 1)) (pqBt (x q)) = true
        · rw [if_pos c2]
          exact ⟨_, rfl, Or.inl ⟨q, R, rfl, by omega, ⟨hq, hok2, Or.inr ⟨c.1, hbad c.1 (Or.inr c2)⟩⟩, g5⟩⟩
        · rw [if_neg c2]
          obtain ⟨cl, op, k1, k2, k3, k4, k5⟩ := hgood c.1 c.2 (Bool.eq_false_iff.mpr c2)
          have hok3 := pqOk_ext hok2 k1
          have hns3 : ∀ i, p ≤ i → i < q + 1 → x i ≠ 59 := fun i h1 h2 => by
            rcases Nat.lt_or_ge i q with z | z
            · exact hns i h1 z
            · obtain rfl : i = q := by omega
              intro y
              have := c.2
              unfold pqBt at this
              rw [y] at this
              exact this rfl
          have hR3 : ∀ z, z ≠ A → z ≠ A + 1 → upd R (A + w) (R (A + w) ||| ((1 : Int32) <<< (nI (pqBt (x q)) &&& (31 : Int32)))) z = R0 z := fun z h1 h2 => by
            rw [pk_un (by omega)]
            exact g5 z h1 h2
          have hM : ∀ z, z = A ∨ z = A + 1 → pqMk 6 (upd R (A + w) (R (A + w) ||| ((1 : Int32) <<< (nI (pqBt (x q)) &&& (31 : Int32)))) z) := fun z hz => by
            have hMz : pqMk 6 (R z) := by
              rcases hz with rfl | rfl
              · exact m1
              · exact m2
            by_cases y : z = A + w
            · rw [y, pk_us, ← y]
              exact pqMk_bit hMz (by omega) (by omega)
            · rw [pk_un y]
              exact hMz
          refine hrec hi61 _ _ _ ⟨q + 1, rfl, by omega, by omega, hok3, hns3, hR3, hM A (Or.inl rfl), hM (A + 1) (Or.inr rfl), ?_⟩
          rcases hmo with ⟨rfl, hgo⟩ | ⟨rfl, hgo⟩
          · left
            refine ⟨rfl, ?_, fun z => absurd hgo.1 (by omega)⟩
            have := pq_ib4 h hb k2 hgo k5
            rw [k3, k4] at this
            exact this
          · right
            exact ⟨rfl, by omega, hgo, cl, op, k2, k3.symm, k4.symm, k5⟩
      · rw [if_neg c, pq_Jm1]
        refine ⟨_, rfl, Or.inl ⟨q, R, rfl, by omega, ⟨hq, hok2, ?_⟩, g5⟩⟩
        rcases Nat.lt_or_ge q l with z | z
        · exact Or.inr ⟨z, hbad z (Or.inl (Decidable.not_not.mp (fun y => c ⟨z, y⟩)))⟩
        · exact Or.inl ⟨by omega, hend2 (by omega)⟩
    -- without the sign of an opening contact
    have plain : ¬ (p2 < l ∧ x p2 = 33 ∧ ¬ R A ||| R (A + 1) = 1023) → ∃ r, F_X4_readsBranch_J71 fu rec (nI l) tx (nI A) R (0 : Int32) (nI p2) = some r ∧ pqBrEnd fu st0 tx x l p b A k o t cl0 op0 R0 r := by
      intro hn
      refine fin p2 0 g2 (Nat.le_refl _) (by omega) g3 g4 hend (fun z y => I3 z (fun q => hn ⟨z, q.1, q.2⟩) y) (fun z y1 y2 => ?_)
      obtain ⟨cl, op, k1, k2, k3, k4, k5⟩ := I2 z (fun q => hn ⟨z, q.1, q.2⟩) y1 y2
      exact ⟨cl, op, k1, k2, by rw [k3, Nat.add_zero, pk_us], by rw [k4, pk_un (by omega)], k5⟩
    have htk : F_X4_takes fu (nI l) (nI p2) tx (33 : Int32) = some (if p2 < l ∧ x p2 = 33 then (1, nI (p2 + 1)) else (0, nI p2)) := pq_takes (m := 33) h (by omega) g2
    unfold F_X4_readsBranch_L32
    rw [if_neg pq_10, pq_rd (by omega) (by omega), Option.bind_some, nI_1, pq_rd (by omega) (by omega), Option.bind_some]
    by_cases c : R A ||| R (A + 1) = 1023
    · rw [if_pos c]
      exact plain (fun z => z.2.2 c)
    · rw [if_neg c, htk, Option.bind_some]
      by_cases c2 : p2 < l ∧ x p2 = 33
      · obtain ⟨cl, op, k1, k2, k3, k4, k5⟩ := I1 c2.1 c2.2 c
        simp only [if_pos c2, pq_10, ↓reduceIte]
        refine fin (p2 + 1) 1 (by omega) (by omega) (by omega) (pqOk_ext g3 k1) (fun i h1 h2 => ?_) (fun z => by rw [← z, k2]; exact ⟨(by decide : ¬ (3 : Int32) = 4), (by decide : ¬ (3 : Int32) = 8)⟩) (fun z y => ?_) (fun z y1 y2 => ?_)
        · rcases Nat.lt_or_ge i p2 with y | y
          · exact g4 i h1 y
          · obtain rfl : i = p2 := by omega
            omega
        · obtain ⟨e, h1, h2⟩ := h.2 (p2 + 1) z
          have ht := pq_tk3 (fu := fu) (x := x (p2 + 1)) (k := k) (o := o) (t := t) (cl := cl) (op := op) hb h2
          rw [k3, k4, if_neg (fun q => by
            rcases y with y | y
            · exact q.1 y
            · rw [q.2] at y
              cases y), ← e] at ht
          exact pqBad_of k2 ht
        · obtain ⟨e, h1, h2⟩ := h.2 (p2 + 1) z
          have ht := pq_tk3 (fu := fu) (x := x (p2 + 1)) (k := k) (o := o) (t := t) (cl := cl) (op := op) hb h2
          rw [k3, k4, if_pos ⟨y1, y2⟩, ← e] at ht
          obtain ⟨q1, q2⟩ := pqOk_of k2 ht
          exact ⟨_, _, q1, q2, by rw [k3, pk_un (by omega)], by rw [pk_us, pk_us], fun z hz => ⟨(k5 z hz).1, by rw [pk_un hz]; exact (k5 z hz).2⟩⟩
      · simp only [if_neg c2, ↓reduceIte]
        exact plain (fun z => c2 ⟨z.1, z.2.1⟩)
  · rw [e1]
    unfold F_X4_readsBranch_L32
    rw [if_pos rfl]
    exact ⟨_, rfl, Or.inr ⟨p2, R, cl, op, rfl, hlt, g2, g3, g4, k1, k2, k3, by rw [← k2]; exact m1, by rw [← k3]; exact m2, k4, g5, hng⟩⟩
