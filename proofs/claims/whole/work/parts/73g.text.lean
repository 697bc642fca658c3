/-! Texts: orders done by both; draw. -/
theorem pq_do {fu n j : Nat} {b : Nat → Nat} {br cl op pu dr cg : Nat → Int32} {inp mot tk ch : Int32} {s R : Nat → Int32} {st : pqRS} (h : pqLad n b br cl op pu dr cg inp mot tk ch s) (hj : j < 16) (hO : pqOrd R j st) (hf : 4096 ≤ fu) : (F_X3_doOrder fu (nI n) br cl op pu dr st.2.1 st.2.2.1 st.2.2.2.1 st.2.2.2.2.1 st.2.2.2.2.2.2.1 st.2.2.2.2.2.2.2 = some (0, br, cl, op, pu, dr) ∧ F_X4_canDo fu s R (nI (11 * j)) = some 0) ∨ ∃ (b2 : Nat → Nat) (br2 cl2 op2 pu2 dr2 s2 : Nat → Int32), F_X3_doOrder fu (nI n) br cl op pu dr st.2.1 st.2.2.1 st.2.2.2.1 st.2.2.2.2.1 st.2.2.2.2.2.2.1 st.2.2.2.2.2.2.2 = some (1, br2, cl2, op2, pu2, dr2) ∧ F_X4_canDo fu s R (nI (11 * j)) = some 1 ∧ F_X4_does fu s R (nI (11 * j)) = some s2 ∧ pqLad n b2 br2 cl2 op2 pu2 dr2 cg inp mot tk ch s2 := by
  obtain ⟨nx, kd, ow9, tm9, nb9, cu9, rc, ro⟩ := st
  obtain ⟨ow, how, r1, e1, hO⟩ := hO
  simp only at e1 hO ⊢
  subst e1
  have hn := h.1.1
  have h0 := h.2.1.2.1
  have ep1 : nI (11 * j) + (1 : Int32) = nI (11 * j + 1) := nI_1 _
  have ep2 : nI (11 * j) + (2 : Int32) = nI (11 * j + 2) := nI_add _ 2
  have hrel := pq_rel (fu := fu) (fu2 := fu) hn h0 (nI ow)
  rcases hO with ⟨r0, k0, nb, hnb, r2, e2, hm⟩ | ⟨hk, tm, htm, r2, e2⟩
  · subst k0 e2
    have r0' : R (11 * j) = 61 := r0
    have can : ∀ f0 : Int32, (f0 = 0 ∨ f0 = 1) → F_X4_isRelay fu s (nI ow) = some f0 → ∃ v, F_X4_canDo fu s R (nI (11 * j)) = some v ∧ (v = 1 ∧ f0 = 1 ∧ pqGood n nb rc ro ∨ v = 0 ∧ ¬ (f0 = 1 ∧ pqGood n nb rc ro)) := by
      intro f0 h01 hf0
      unfold F_X4_canDo
      rw [ep1, pq_rd (by omega) (by omega), r1, Option.bind_some, hf0, Option.bind_some]
      exact pq_canR hn h0 hj hnb r0 r2 hm h01 hf
    rcases hrel with ⟨t1, t2⟩ | ⟨r, hr, er, t1, t2⟩
    · left
      obtain ⟨v, ev, hv⟩ := can 0 (Or.inl rfl) t2
      refine ⟨by simp only [F_X3_doOrder, t1, Option.bind_some, ↓reduceIte], ?_⟩
      rcases hv with ⟨-, hv, -⟩ | ⟨rfl, -⟩
      · exact absurd hv pq_01
      · exact ev
    · obtain rfl : ow = r := (nI_eq (by omega) (by omega)).mp er
      obtain ⟨v, ev, hv⟩ := can 1 (Or.inr rfl) t2
      have hro : F_X3_doOrder fu (nI n) br cl op pu dr 0 (nI ow) tm9 (nI nb) rc ro = (F_X3_doRung fu (nI n) br cl op (nI nb) rc ro (nI ow)).bind fun v5 => (zbo v5.1).bind fun v6 => some (v6, v5.2.1, v5.2.2.1, v5.2.2.2, pu, dr) := by
        simp only [F_X3_doOrder, t1, Option.bind_some, ↓reduceIte, pq_10, pq_01, show ¬ (0 : Int32) = 2 by decide]
      rw [hro]
      -- the class's test
      have test : ∃ rr, F_X3_doRung fu (nI n) br cl op (nI nb) rc ro (nI ow) = rr ∧ (¬ pqGood n nb rc ro ∧ rr = some (0, br, cl, op) ∨ pqGood n nb rc ro ∧ rr = F_X3_doRung_E50 fu br cl op (nI nb) rc ro (nI ow) (nI nb)) := by
        unfold F_X3_doRung
        refine zlp_t1 (Q := fun (oo : Option (Int32 × (Nat → Int32) × (Nat → Int32) × (Nat → Int32))) => ∃ rr, oo = rr ∧ (¬ pqGood n nb rc ro ∧ rr = some (0, br, cl, op) ∨ pqGood n nb rc ro ∧ rr = F_X3_doRung_E50 fu br cl op (nI nb) rc ro (nI ow) (nI nb))) nb (fun (i : Nat) (a : Int32) => a = nI i ∧ ∀ q, q < i → pqMk n (rc q) ∧ pqMk n (ro q)) ?_ (by omega) _ ⟨rfl, fun q z => absurd z (Nat.not_lt_zero _)⟩
        rintro rec i hi hrec a ⟨ea, hall⟩
        rw [ea]
        rcases Nat.lt_or_ge i nb with c | c
        · obtain ⟨y1, y2, y3, y4⟩ := hm i c
          rw [F_X3_doRung_L2, if_neg (nI_ge c (by omega)), pq_rd (by omega) (by omega), Option.bind_some, pq_rd (by omega) (by omega), Option.bind_some]
          rcases pq_hor (fu := fu) hn y3 y4 with ⟨z1, z2⟩ | ⟨z1, z2⟩
          · rw [z1, Option.bind_some, if_neg pq_10, nI_1]
            refine hrec c _ ⟨rfl, fun q hq => ?_⟩
            rcases Nat.lt_or_ge q i with w | w
            · exact hall q w
            · obtain rfl : q = i := by omega
              exact z2
          · rw [z1, Option.bind_some, if_pos rfl]
            exact ⟨_, rfl, Or.inl ⟨fun g => z2 (g i c), rfl⟩⟩
        · obtain rfl : i = nb := by omega
          rw [F_X3_doRung_L2, if_pos (Int32.le_refl _)]
          exact ⟨_, rfl, Or.inr ⟨hall, rfl⟩⟩
      obtain ⟨rr, err, hrr⟩ := test
      rw [err]
      rcases hrr with ⟨hg, rfl⟩ | ⟨hg, rfl⟩
      · left
        refine ⟨by simp only [Option.bind_some, pq_zbo0], ?_⟩
        rcases hv with ⟨-, -, hv⟩ | ⟨rfl, -⟩
        · exact absurd hv hg
        · exact ev
      · right
        rcases hv with ⟨rfl, -, -⟩ | ⟨-, hv⟩
        · have hs := pq_stripLad h hr
          obtain ⟨b2, br2, cl2, op2, s2, g1, g2, g3⟩ := pq_layAll (fu := fu) (R := R) (rc := rc) (ro := ro) hr hj hnb r2 (fun q hq => ⟨(hm q hq).1, (hm q hq).2.1⟩) hg hf nb 0 (by omega) _ _ _ _ _ (nI (b ow)) pqBu_s hs fu fu (by omega) (by omega)
          refine ⟨b2, br2, cl2, op2, pu, dr, s2, ?_, ev, ?_, g3⟩
          · unfold F_X3_doRung_E50
            rw [pq_dropB (by omega) (h.1.2 ow hr).1, Option.bind_some]
            have g1' : zlp4 (F_X3_doRung_L61 fu (nI nb) rc ro (nI ow) F_X3_doRung_E105) fu (0 : Int32) (upd br ow 0) cl op = some (1, br2, cl2, op2) := g1
            rw [g1', Option.bind_some]
            simp only [pq_zbo1, Option.bind_some]
          · unfold F_X4_does
            rw [ep1, pq_rd (by omega) (by omega), r1, Option.bind_some, pq_rd (by omega) (by omega), r0', Option.bind_some, if_pos rfl, pq_strips (by omega) (h.2.1.2.2.2 ow hr).2.2.2.1 hf, Option.bind_some]
            exact g2
        · exact absurd ⟨rfl, hg⟩ hv
  · subst e2
    have can : ∀ f0 : Int32, (f0 = 0 ∨ f0 = 1) → F_X4_isRelay fu s (nI ow) = some f0 → F_X4_canDo fu s R (nI (11 * j)) = some f0 := by
      intro f0 h01 hf0
      obtain ⟨g, rfl⟩ : ∃ g, fu = g + 1 := ⟨fu - 1, by omega⟩
      have hne : ¬ R (11 * j) = 61 := by
        intro z
        rcases hk with ⟨hk, -⟩ | ⟨hk, -⟩
        · rw [Nat.add_zero, z] at hk
          exact absurd hk (by decide)
        · rw [Nat.add_zero, z] at hk
          exact absurd hk (by decide)
      have hz : zbo f0 = some f0 := by
        rcases h01 with rfl | rfl <;> rfl
      unfold F_X4_canDo
      rw [ep1, pq_rd (by omega) (by omega), r1, Option.bind_some, hf0, Option.bind_some, zlp_s2, F_X4_canDo_L15, ep2, pq_rd (by omega) (by omega), r2, Option.bind_some]
      split
      · rw [F_X4_canDo_E73, hz, Option.bind_some]
      · rw [pq_rd (by omega) (by omega), Option.bind_some, if_neg hne, F_X4_canDo_E73, hz, Option.bind_some]
    rcases hrel with ⟨t1, t2⟩ | ⟨r, hr, er, t1, t2⟩
    · left
      exact ⟨by simp only [F_X3_doOrder, t1, Option.bind_some, ↓reduceIte], can 0 (Or.inl rfl) t2⟩
    · right
      obtain rfl : ow = r := (nI_eq (by omega) (by omega)).mp er
      rcases hk with ⟨r0, k0⟩ | ⟨r0, k0⟩
      · subst k0
        have r0' : R (11 * j) = 117 := r0
        refine ⟨b, br, cl, op, upd pu ow (nI tm), dr, upd s (4 + 14 * ow + 2) (nI tm), ?_, can 1 (Or.inr rfl) t2, ?_, pq_puLad h hr ⟨tm, htm, rfl⟩⟩
        · simp (disch := omega) only [F_X3_doOrder, t1, Option.bind_some, ↓reduceIte, pq_10, pq_wr]
        · unfold F_X4_does
          rw [ep1, pq_rd (by omega) (by omega), r1, Option.bind_some, pq_rd (by omega) (by omega), r0', Option.bind_some, if_neg (by decide), Option.bind_some, if_pos rfl, F_X4_does_J41, ep2, pq_rd (by omega) (by omega), r2, Option.bind_some, pq_puts2 (by omega), Option.bind_some]
      · subst k0
        have r0' : R (11 * j) = 118 := r0
        refine ⟨b, br, cl, op, pu, upd dr ow (nI tm), upd s (4 + 14 * ow + 3) (nI tm), ?_, can 1 (Or.inr rfl) t2, ?_, pq_drLad h hr ⟨tm, htm, rfl⟩⟩
        · simp (disch := omega) only [F_X3_doOrder, t1, Option.bind_some, ↓reduceIte, pq_10, show ¬ (2 : Int32) = 1 by decide, pq_wr]
        · unfold F_X4_does
          rw [ep1, pq_rd (by omega) (by omega), r1, Option.bind_some, pq_rd (by omega) (by omega), r0', Option.bind_some, if_neg (by decide), Option.bind_some, if_neg (by decide), F_X4_does_J41, ep2, pq_rd (by omega) (by omega), r2, Option.bind_some, pq_puts3 (by omega), Option.bind_some]
abbrev pqDT : Type := Int32 × (Nat → Int32) × (Nat → Int32) × (Nat → Int32) × (Nat → Int32) × (Nat → Int32) × Int32 × Int32 × Int32 × Int32 × Int32 × Int32 × (Nat → Int32) × (Nat → Int32)
abbrev pqET : Type := Int32 × Int32 × Int32 × Int32 × Int32 × Int32 × (Nat → Int32) × (Nat → Int32) × (Nat → Int32)
/-- the class from sign i of order j on, the reference from order j on: both end alike -/
theorem pq_orders {fu n l m : Nat} {sg tx R cg : Nat → Int32} {x E : Nat → Nat} {inp mot tk ch : Int32} {st0 : pqRS} {v1 : Int32 × Int32 × Int32 × (Nat → Int32)} {v3 : Int32 × Int32} {v5 : Int32 × (Nat → Int32)} (hcs : pqCs l tx x) (hsg : ∀ i, i < l → sg i = tx i) (e1 : v1.2.2.1 = nI (m + 1)) (e2 : v1.2.2.2 = R) (hm : m < 16) (hok : ∀ i, i < l → pqOk fu st0 tx i) (hEm : E m = l) (hO : ∀ j, j ≤ m → E j ≤ l ∧ pqOrd R j (pqSt8 fu st0 tx (E j))) (hE : ∀ j, j < m → E j < E (j + 1) ∧ x (E j) = 59) (hns0 : ∀ i, i < E 0 → x i ≠ 59) (hns : ∀ j, j < m → ∀ i, E j < i → i < E (j + 1) → x i ≠ 59) (hf : 4096 ≤ fu) : ∀ (k i : Nat), i + k = l → ∀ (j : Nat), j ≤ m → i ≤ E j → (∀ q, i ≤ q → q < E j → x q ≠ 59) → ∀ (b : Nat → Nat) (br cl op pu dr s : Nat → Int32), pqLad n b br cl op pu dr cg inp mot tk ch s → ∀ fc fr, k < fc → m + 1 - j < fr → ∃ (d : Int32) (b2 : Nat → Nat) (br2 cl2 op2 pu2 dr2 s2 : Nat → Int32) (y1 y2 y3 y4 y5 y0 : Int32) (y6 y7 : Nat → Int32), zlp15 (F_X3_doOrders_L11 fu (nI l) (nI n) sg (F_X3_doOrders_E62 fu (nI n))) fc (nI j) (nI i) br cl op pu dr (pqSt8 fu st0 tx i).1 (pqSt8 fu st0 tx i).2.1 (pqSt8 fu st0 tx i).2.2.1 (pqSt8 fu st0 tx i).2.2.2.1 (pqSt8 fu st0 tx i).2.2.2.2.1 (pqSt8 fu st0 tx i).2.2.2.2.2.1 (pqSt8 fu st0 tx i).2.2.2.2.2.2.1 (pqSt8 fu st0 tx i).2.2.2.2.2.2.2 = some (d, br2, cl2, op2, pu2, dr2, y1, y2, y3, y4, y5, y0, y6, y7) ∧ zlp2 (F_X4_draw_L32 fu v1 (F_X4_draw_E65 v1 v3 v5)) fr (nI j) s = some (d, v3.2, v5.1, 0, v1.2.1, v1.2.2.1, s2, v5.2, v1.2.2.2) ∧ pqLad n b2 br2 cl2 op2 pu2 dr2 cg inp mot tk ch s2 := by
  have hl := hcs.1
  have e11 : ∀ j, (11 : Int32) * nI j = nI (11 * j) := pq_11
  intro k
  induction k with
  | zero =>
    intro i hi j hj hij hq b br cl op pu dr s h fc fr h1 h2
    obtain rfl : i = l := by omega
    have hjm : j = m := by
      rcases Nat.lt_or_ge j m with c | c
      · have := (hE j c).1
        have := (hO (j + 1) (by omega)).1
        omega
      · omega
    subst hjm
    obtain ⟨fc, rfl⟩ : ∃ q, fc = q + 1 := ⟨fc - 1, by omega⟩
    obtain ⟨fr, rfl⟩ : ∃ q, fr = q + 1 := ⟨fr - 1, by omega⟩
    have hO2 := (hO j (Nat.le_refl _)).2
    rw [hEm] at hO2
    rw [zlp_s15, F_X3_doOrders_L11, if_pos (Int32.le_refl _), F_X3_doOrders_E62, zlp_s2, F_X4_draw_L32, e1, if_neg (nI_ge (by omega) (by omega)), e2, e11]
    rcases pq_do (fu := fu) h hm hO2 hf with ⟨g1, g2⟩ | ⟨b2, br2, cl2, op2, pu2, dr2, s2, g1, g2, g3, g4⟩
    · rw [g1, g2, Option.bind_some, Option.bind_some, if_pos rfl, if_pos rfl, F_X4_draw_E65, e1, e2]
      exact ⟨_, b, br, cl, op, pu, dr, s, _, _, _, _, _, _, _, _, rfl, rfl, h⟩
    · obtain ⟨fr, rfl⟩ : ∃ q, fr = q + 1 := ⟨fr - 1, by omega⟩
      rw [g1, g2, Option.bind_some, Option.bind_some, if_neg pq_10, if_neg pq_10, g3, Option.bind_some, nI_1, zlp_s2, F_X4_draw_L32, e1, if_pos (Int32.le_refl _), F_X4_draw_E65, e1, e2]
      exact ⟨_, b2, br2, cl2, op2, pu2, dr2, s2, _, _, _, _, _, _, _, _, rfl, rfl, g4⟩
  | succ k ih =>
    intro i hi j hj hij hq b br cl op pu dr s h fc fr h1 h2
    obtain ⟨fc, rfl⟩ : ∃ q, fc = q + 1 := ⟨fc - 1, by omega⟩
    have hil : i < l := by omega
    obtain ⟨e, i1, i2⟩ := hcs.2 i hil
    have hoki := hok i hil
    unfold pqOk at hoki
    have htk : F_X1_take fu (pqSt8 fu st0 tx i).1 (pqSt8 fu st0 tx i).2.1 (pqSt8 fu st0 tx i).2.2.1 (pqSt8 fu st0 tx i).2.2.2.1 (pqSt8 fu st0 tx i).2.2.2.2.1 (pqSt8 fu st0 tx i).2.2.2.2.2.1 (pqSt8 fu st0 tx i).2.2.2.2.2.2.1 (pqSt8 fu st0 tx i).2.2.2.2.2.2.2 (tx i) = some (1, pqSt8 fu st0 tx (i + 1)) := hoki
    have e59 : (tx i = (59 : Int32)) ↔ x i = 59 := by
      rw [e]
      exact (pq_cmp (k := 59) i2 (by omega)).1
    rw [zlp_s15, F_X3_doOrders_L11, if_neg (nI_ge hil (by omega)), pq_rd (by omega) (by omega), hsg i hil, Option.bind_some]
    by_cases c : x i = 59
    · have hiE : i = E j := by
        rcases Nat.lt_or_ge i (E j) with z | z
        · exact absurd c (hq i (Nat.le_refl _) z)
        · omega
      have hjm : j < m := by
        rcases Nat.lt_or_ge j m with z | z
        · exact z
        · obtain rfl : j = m := by omega
          omega
      obtain ⟨fr, rfl⟩ : ∃ q, fr = q + 1 := ⟨fr - 1, by omega⟩
      have hO2 := (hO j hj).2
      rw [← hiE] at hO2
      rw [if_pos (e59.mpr c), zlp_s2, F_X4_draw_L32, e1, if_neg (nI_ge (by omega) (by omega)), e2, e11]
      rcases pq_do (fu := fu) h (by omega) hO2 hf with ⟨g1, g2⟩ | ⟨b2, br2, cl2, op2, pu2, dr2, s2, g1, g2, g3, g4⟩
      · simp only [g1, g2, Option.bind_some, ↓reduceIte, F_X4_draw_E65, e1, e2]
        exact ⟨_, b, br, cl, op, pu, dr, s, _, _, _, _, _, _, _, _, rfl, rfl, h⟩
      · simp only [g1, g2, Option.bind_some, pq_10, ↓reduceIte, g3, htk, nI_1]
        rw [← e2, ← e1]
        have := (hE j hjm).1
        exact ih (i + 1) (by omega) (j + 1) (by omega) (by omega) (fun q q1 q2 => hns j hjm q (by omega) q2) b2 br2 cl2 op2 pu2 dr2 s2 g4 fc fr (by omega) (by omega)
    · have hiE : i < E j := by
        rcases Nat.lt_or_ge i (E j) with z | z
        · exact z
        · exfalso
          have hiE : i = E j := by omega
          rcases Nat.lt_or_ge j m with y | y
          · exact c (by rw [hiE]; exact (hE j y).2)
          · obtain rfl : j = m := by omega
            omega
      rw [if_neg (fun z => c (e59.mp z))]
      simp only [Option.bind_some, htk, nI_1]
      exact ih (i + 1) (by omega) j hj (by omega) (fun q q1 q2 => hq q (by omega) q2) b br cl op pu dr s h fc fr (by omega) h2
theorem pq_draw {fu n l : Nat} {b : Nat → Nat} {br cl op pu dr cg : Nat → Int32} {inp mot tk ch rk ck sc rs th sp od : Int32} {s past sg tx R0 : Nat → Int32} {x : Nat → Nat} {sv : SVT} {nx kd ow t rb cu : Int32} {rc ro : Nat → Int32} (h : pqLad n b br cl op pu dr cg inp mot tk ch s) (hS : pqSaved sc sv.2 rs past) (hcs : pqCs l tx x) (hsg : ∀ i, i < l → sg i = tx i) (hf : 4096 ≤ fu) : (∃ (y1 y2 y3 y4 y5 y0 : Int32) (y6 y7 : Nat → Int32) (sp2 od2 : Int32) (R2 : Nat → Int32), F_X3_draw fu sc (nI l) rk ck (nI n) inp mot tk ch br cl op pu dr cg sg nx kd ow t rb cu rc ro sv = some (1, 0, sc, nI l, rk, ck, br, cl, op, pu, dr, y1, y2, y3, y4, y5, y0, y6, y7, sv) ∧ F_X4_draw fu th rs (nI l) sp od s past tx R0 = some (0, 1, rs, nI l, sp2, od2, s, past, R2)) ∨ ∃ (v sc2 : Int32) (br2 cl2 op2 pu2 dr2 : Nat → Int32) (y1 y2 y3 y4 y5 y0 : Int32) (y6 y7 : Nat → Int32) (sv2 : SVT) (sp2 od2 : Int32) (R2 s2 past2 : Nat → Int32), F_X3_draw fu sc (nI l) rk ck (nI n) inp mot tk ch br cl op pu dr cg sg nx kd ow t rb cu rc ro sv = some (0, v, sc2, 0, 0, 0, br2, cl2, op2, pu2, dr2, y1, y2, y3, y4, y5, y0, y6, y7, sv2) ∧ F_X4_draw fu th rs (nI l) sp od s past tx R0 = some (v, 0, sc2, 0, sp2, od2, s2, past2, R2) ∧ pqLadT (nI n, br2, cl2, op2, pu2, dr2, cg, inp, mot, tk, ch) s2 ∧ pqSaved sc2 sv2.2 sc2 past2 := by
  obtain ⟨r, er, hr⟩ := pq_isText (fu := fu) (st0 := (0, kd, ow, t, rb, cu, rc, ro)) (R0 := R0) (sp := sp) (od := od) hcs rfl hf
  unfold F_X4_draw F_X3_draw F_X3_isCompleteText
  rw [er, Option.bind_some]
  rcases hr with ⟨p2, od2, R, rfl, h1, h2, h3⟩ | ⟨m, E, R, rfl, h1, h2, h3, -⟩
  · left
    obtain ⟨st2, k1, k2⟩ := pq_fe1 (fu := fu) (nx := nx) hcs.1 hsg h1 h2 (h3.imp (fun z => z.1) id) hf
    obtain ⟨z1, z2, z3, z4, z5, z6, z7, z8⟩ := st2
    rw [k1]
    have hl := hcs.1
    have hcomp : (if nI p2 = nI l then (F_X1_mayEnd fu z1).bind fun v3 => if v3 = 0 then some ((0 : Int32), z1, z2, z3, z4, z5, z6, z7, z8) else some (1, z1, z2, z3, z4, z5, z6, z7, z8) else some (0, z1, z2, z3, z4, z5, z6, z7, z8)) = some (0, z1, z2, z3, z4, z5, z6, z7, z8) := by
      by_cases c : nI p2 = nI l
      · have e : p2 = l := (nI_eq (by omega) (by omega)).mp c
        rcases h3 with ⟨-, n4, n8⟩ | ⟨z, -⟩
        · have e2 := k2 e
          rw [← e2] at n4 n8
          simp only at n4 n8
          rw [if_pos c]
          unfold F_X1_mayEnd
          rw [if_neg n4, if_neg n8, Option.bind_some, if_pos rfl]
        · omega
      · rw [if_neg c]
    simp only [Option.bind_some, ↓reduceIte, F_X4_draw_J13, pq_ref1, pq_10]
    rw [hcomp]
    simp only [Option.bind_some, ↓reduceIte]
    exact ⟨_, _, _, _, _, _, _, _, _, _, _, rfl, rfl⟩
  · right
    obtain ⟨st2, k1, k2⟩ := pq_fe1 (fu := fu) (nx := nx) hcs.1 hsg (Nat.le_refl l) h2 (Or.inl rfl) hf
    obtain ⟨z1, z2, z3, z4, z5, z6, z7, z8⟩ := st2
    have e2 := k2 rfl
    rw [← e2] at h3
    simp only at h3
    rw [k1]
    have hmay : F_X1_mayEnd fu z1 = some 1 := by
      unfold F_X1_mayEnd
      rcases h3 with h3 | h3
      · rw [if_pos h3]
      · by_cases c : z1 = 4
        · rw [if_pos c]
        · rw [if_neg c, if_pos h3]
    obtain ⟨sc2, sv2, past2, g1, g2, g3⟩ := pq_save (fu := fu) (rk := rk) (ck := ck) h hS hf
    -- the reading of the class while it does the orders
    obtain ⟨r', er', hr'⟩ := pq_isText (fu := fu) (st0 := (0, z2, z3, z4, z5, z6, z7, z8)) (R0 := R0) (sp := sp) (od := od) hcs rfl hf
    rw [er] at er'
    obtain rfl := Option.some.inj er'
    rcases hr' with ⟨p2, od2, R', e3, -⟩ | ⟨m', E', R', e3, a1, a2, a3, a4, a5, a6, a7, a8⟩
    · simp only [Prod.mk.injEq] at e3
      exact absurd e3.1 pq_10
    · simp only [Prod.mk.injEq] at e3
      obtain ⟨-, -, e4, rfl⟩ := e3
      obtain ⟨d, b2, br2, cl2, op2, pu2, dr2, s2, y1, y2, y3, y4, y5, y0, y6, y7, f1, f2, f3⟩ := pq_orders (fu := fu) (n := n) (v1 := (1, nI l, nI (m + 1), R)) (v3 := (0, 0)) (v5 := (sc2, past2)) hcs hsg e4 rfl a1 a2 a4 a5 a6 a7 a8 hf l 0 (by omega) 0 (Nat.zero_le _) (Nat.zero_le _) (fun q _ q2 => a7 q q2) b br cl op pu dr s h fu fu (by have := hcs.1; omega) (by omega)
      simp only [Option.bind_some, ↓reduceIte, hmay, pq_10, F_X4_draw_J13, pq_ref0, g1, g2, F_X3_doOrders, F_X1_begin]
      have f1' : zlp15 (F_X3_doOrders_L11 fu (nI l) (nI n) sg (F_X3_doOrders_E62 fu (nI n))) fu (0 : Int32) (0 : Int32) br cl op pu dr (0 : Int32) z2 z3 z4 z5 z6 z7 z8 = some (d, br2, cl2, op2, pu2, dr2, y1, y2, y3, y4, y5, y0, y6, y7) := f1
      have f2' : zlp2 (F_X4_draw_L32 fu (1, nI l, nI (m + 1), R) (F_X4_draw_E65 (1, nI l, nI (m + 1), R) (0, 0) (sc2, past2))) fu (0 : Int32) s = some (d, 0, sc2, 0, nI l, nI (m + 1), s2, past2, R) := f2
      rw [f1', f2']
      simp only [Option.bind_some]
      exact ⟨_, _, _, _, _, _, _, _, _, _, _, _, _, _, _, _, _, _, _, _, _, rfl, rfl, ⟨n, b2, rfl, f3⟩, g3⟩
