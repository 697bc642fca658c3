/-! Texts: the first error; an order done by both. -/
theorem pq_fe1 {fu l p2 : Nat} {sg tx : Nat → Int32} {nx kd ow t b cu : Int32} {cl op : Nat → Int32} (hl : l ≤ 60) (hsg : ∀ i, i < l → sg i = tx i) (hp : p2 ≤ l) (hok : ∀ i, i < p2 → pqOk fu (0, kd, ow, t, b, cu, cl, op) tx i) (hend : p2 = l ∨ p2 < l ∧ pqBad fu (0, kd, ow, t, b, cu, cl, op) tx p2) (hf : 4096 ≤ fu) : ∃ st2 : pqRS, F_X3_firstError fu (nI l) sg nx kd ow t b cu cl op = some (nI p2, st2) ∧ (p2 = l → st2 = pqSt8 fu (0, kd, ow, t, b, cu, cl, op) tx l) := by
  unfold F_X3_firstError F_X1_begin
  rw [Option.bind_some]
  obtain ⟨st0, hst0⟩ : ∃ st0 : pqRS, st0 = (0, kd, ow, t, b, cu, cl, op) := ⟨_, rfl⟩
  rw [← hst0] at hok hend ⊢
  refine zlp_t9 (Q := fun (oo : Option (Int32 × Int32 × Int32 × Int32 × Int32 × Int32 × Int32 × (Nat → Int32) × (Nat → Int32))) => ∃ st2 : pqRS, oo = some (nI p2, st2) ∧ (p2 = l → st2 = pqSt8 fu st0 tx l)) p2 (fun (i : Nat) (a1 a2 a3 a4 a5 a6 a7 : Int32) (a8 a9 : Nat → Int32) => a1 = nI i ∧ (a2, a3, a4, a5, a6, a7, a8, a9) = pqSt8 fu st0 tx i) ?_ (by omega) _ _ _ _ _ _ _ _ _ ⟨rfl, hst0.symm⟩
  rintro rec i hi hrec a1 a2 a3 a4 a5 a6 a7 a8 a9 ⟨e1, e2⟩
  rw [e1]
  rcases Nat.lt_or_ge i l with c | c
  · rw [F_X3_firstError_L9, if_neg (nI_ge c (by omega)), pq_rd (by omega) (by omega), hsg i c, Option.bind_some]
    have ht : F_X1_take fu a2 a3 a4 a5 a6 a7 a8 a9 (tx i) = pqTk fu (a2, a3, a4, a5, a6, a7, a8, a9) (tx i) := rfl
    rw [ht, e2]
    rcases Nat.lt_or_ge i p2 with z | z
    · have k := hok i z
      unfold pqOk at k
      rw [k, Option.bind_some, if_neg pq_10, nI_1]
      exact hrec z _ _ _ _ _ _ _ _ _ ⟨rfl, rfl⟩
    · obtain rfl : i = p2 := by omega
      obtain ⟨st2, k⟩ := (hend.resolve_left (by omega)).2
      rw [k, Option.bind_some, if_pos rfl]
      exact ⟨st2, rfl, fun y => absurd y (by omega)⟩
  · obtain rfl : i = l := by omega
    obtain rfl : p2 = i := by omega
    rw [F_X3_firstError_L9, if_pos (Int32.le_refl _), F_X3_firstError_E41]
    exact ⟨(a2, a3, a4, a5, a6, a7, a8, a9), rfl, fun _ => e2⟩
theorem pq_ferr {fu l : Nat} {sg tx R0 : Nat → Int32} {x : Nat → Nat} {nx kd ow t b cu sp od th : Int32} {cl op : Nat → Int32} (h : pqCs l tx x) (hsg : ∀ i, i < l → sg i = tx i) (hf : 4096 ≤ fu) : ∃ (v : Int32) (st2 : pqRS) (sp2 od2 : Int32) (R2 : Nat → Int32), F_X3_firstError fu (nI l) sg nx kd ow t b cu cl op = some (v, st2) ∧ F_X4_firstError fu th (nI l) sp od tx R0 = some (v, 0, sp2, od2, R2) := by
  obtain ⟨r, er, hr⟩ := pq_isText (fu := fu) (st0 := (0, kd, ow, t, b, cu, cl, op)) (R0 := R0) (sp := sp) (od := od) h rfl hf
  unfold F_X4_firstError
  rw [er, Option.bind_some]
  rcases hr with ⟨p2, od2, R, rfl, h1, h2, h3⟩ | ⟨m, E, R, rfl, h1, h2, h3⟩
  · obtain ⟨st2, k1, k2⟩ := pq_fe1 (fu := fu) (nx := nx) h.1 hsg h1 h2 (h3.imp (fun z => z.1) id) hf
    simp only [↓reduceIte]
    exact ⟨_, st2, _, _, _, k1, rfl⟩
  · obtain ⟨st2, k1, k2⟩ := pq_fe1 (fu := fu) (nx := nx) h.1 hsg (Nat.le_refl l) h2 (Or.inl rfl) hf
    simp only [pq_10, ↓reduceIte]
    exact ⟨_, st2, _, _, _, k1, rfl⟩
/-! contacts of an order -/
theorem pq_hcon {fu n : Nat} {v : Int32} {k : Nat} (hn : n ≤ 6) (hk : k < 1024) (e : v = nI k) : F_X0_hasContacts fu (nI n) v = some (if k < 2 ^ (4 + n) then 1 else 0) := by
  have hp := pq_p1024 hn
  unfold F_X0_hasContacts
  rw [pq_sh4 hn, e, if_neg (nI_pos (by omega))]
  by_cases c : k < 2 ^ (4 + n)
  · rw [if_neg (nI_ge c (by omega)), if_pos c]
  · rw [if_pos (nI_le (by omega) (by omega)), if_neg c]
theorem pq_acon {fu n : Nat} {s : Nat → Int32} {v : Int32} {k : Nat} (hn : n ≤ 6) (h0 : s 0 = nI n) (hk : k < 1024) (e : v = nI k) : F_X4_areContacts fu s v = some (if k < 2 ^ (4 + n) then 1 else 0) := by
  have hp := pq_p1024 hn
  unfold F_X4_areContacts
  rw [e, if_neg (nI_pos (by omega)), pq_rd0 (by omega) (by omega), h0, Option.bind_some, pq_sh4 hn]
  by_cases c : k < 2 ^ (4 + n)
  · rw [if_neg (nI_ge c (by omega)), if_pos c]
  · rw [if_pos (nI_le (by omega) (by omega)), if_neg c]
theorem pq_hor {fu n : Nat} {v w : Int32} (hn : n ≤ 6) (hv : pqMk 6 v) (hw : pqMk 6 w) : (F_X0_hasContacts fu (nI n) (v ||| w) = some 1 ∧ pqMk n v ∧ pqMk n w) ∨ (F_X0_hasContacts fu (nI n) (v ||| w) = some 0 ∧ ¬ (pqMk n v ∧ pqMk n w)) := by
  obtain ⟨a, ha, rfl⟩ := hv
  obtain ⟨c, hc, rfl⟩ := hw
  have ha : a < 1024 := ha
  have hc : c < 1024 := hc
  rw [fa_or, pq_hcon hn (Nat.or_lt_two_pow (n := 10) ha hc) rfl]
  by_cases z : a ||| c < 2 ^ (4 + n)
  · left
    rw [if_pos z]
    exact ⟨rfl, ⟨a, Nat.lt_of_le_of_lt Nat.left_le_or z, rfl⟩, ⟨c, Nat.lt_of_le_of_lt Nat.right_le_or z, rfl⟩⟩
  · right
    rw [if_neg z]
    refine ⟨rfl, ?_⟩
    rintro ⟨⟨a2, h1, h2⟩, ⟨c2, h3, h4⟩⟩
    have hp := pq_p1024 hn
    rw [nI_eq (by omega) (by omega)] at h2 h4
    subst h2 h4
    exact z (Nat.or_lt_two_pow h1 h3)
theorem pq_acm {fu n : Nat} {s : Nat → Int32} {v : Int32} (hn : n ≤ 6) (h0 : s 0 = nI n) (hv : pqMk 6 v) : (F_X4_areContacts fu s v = some 1 ∧ pqMk n v) ∨ (F_X4_areContacts fu s v = some 0 ∧ ¬ pqMk n v) := by
  obtain ⟨a, ha, rfl⟩ := hv
  have ha : a < 1024 := ha
  have hp := pq_p1024 hn
  rw [pq_acon hn h0 ha rfl]
  by_cases z : a < 2 ^ (4 + n)
  · left
    rw [if_pos z]
    exact ⟨rfl, a, z, rfl⟩
  · right
    rw [if_neg z]
    refine ⟨rfl, ?_⟩
    rintro ⟨a2, h1, h2⟩
    rw [nI_eq (by omega) (by omega)] at h2
    subst h2
    exact z h1
/-- all contacts of the order's branches are there -/
def pqGood (n nb : Nat) (rc ro : Nat → Int32) : Prop := ∀ q, q < nb → pqMk n (rc q) ∧ pqMk n (ro q)
/-- the reference's test of a rung -/
theorem pq_canR {fu n nb j : Nat} {s R rc ro : Nat → Int32} {f0 : Int32} (hn : n ≤ 6) (h0 : s 0 = nI n) (hj : j < 16) (hnb : nb ≤ 4) (r0 : R (11 * j + 0) = 61) (r2 : R (11 * j + 2) = nI nb) (hm : ∀ q, q < nb → R (11 * j + 3 + 2 * q) = rc q ∧ R (11 * j + 3 + 2 * q + 1) = ro q ∧ pqMk 6 (rc q) ∧ pqMk 6 (ro q)) (h01 : f0 = 0 ∨ f0 = 1) (hf : 4096 ≤ fu) : ∃ v, zlp2 (F_X4_canDo_L15 fu R s (nI (11 * j)) (F_X4_canDo_E73)) fu f0 (0 : Int32) = some v ∧ (v = 1 ∧ f0 = 1 ∧ pqGood n nb rc ro ∨ v = 0 ∧ ¬ (f0 = 1 ∧ pqGood n nb rc ro)) := by
  have hM : ∀ k, k < 2 * nb → R (11 * j + 3 + k) = (if k % 2 = 0 then rc (k / 2) else ro (k / 2)) ∧ pqMk 6 (if k % 2 = 0 then rc (k / 2) else ro (k / 2)) := by
    intro k hk
    obtain ⟨y1, y2, y3, y4⟩ := hm (k / 2) (by omega)
    by_cases z : k % 2 = 0
    · rw [if_pos z]
      rw [show 11 * j + 3 + 2 * (k / 2) = 11 * j + 3 + k by omega] at y1
      exact ⟨y1, y3⟩
    · rw [if_neg z]
      rw [show 11 * j + 3 + 2 * (k / 2) + 1 = 11 * j + 3 + k by omega] at y2
      exact ⟨y2, y4⟩
  have hG : (∀ k, k < 2 * nb → pqMk n (if k % 2 = 0 then rc (k / 2) else ro (k / 2))) ↔ pqGood n nb rc ro := by
    constructor
    · intro g q hq
      have g1 := g (2 * q) (by omega)
      have g2 := g (2 * q + 1) (by omega)
      rw [if_pos (by omega), show 2 * q / 2 = q by omega] at g1
      rw [if_neg (by omega), show (2 * q + 1) / 2 = q by omega] at g2
      exact ⟨g1, g2⟩
    · intro g k hk
      have := g (k / 2) (by omega)
      split
      · exact this.1
      · exact this.2
  refine zlp_t2 (Q := fun (oo : Option Int32) => ∃ v, oo = some v ∧ (v = 1 ∧ f0 = 1 ∧ pqGood n nb rc ro ∨ v = 0 ∧ ¬ (f0 = 1 ∧ pqGood n nb rc ro))) (2 * nb) (fun (k : Nat) (a1 a2 : Int32) => a2 = nI k ∧ (a1 = 1 ∧ f0 = 1 ∧ (∀ q, q < k → pqMk n (if q % 2 = 0 then rc (q / 2) else ro (q / 2))) ∨ a1 = 0 ∧ ¬ (f0 = 1 ∧ pqGood n nb rc ro))) ?_ (by omega) _ _ ⟨rfl, by
    rcases h01 with rfl | rfl
    · exact Or.inr ⟨rfl, fun z => pq_01 z.1⟩
    · exact Or.inl ⟨rfl, rfl, fun q z => absurd z (Nat.not_lt_zero _)⟩⟩
  rintro rec k hk hrec a1 a2 ⟨e2, hfl⟩
  rw [e2]
  have e2n : (2 : Int32) * nI nb = nI (2 * nb) := by rw [show (2 : Int32) = nI 2 from rfl, pk_mul]
  have ep2 : nI (11 * j) + (2 : Int32) = nI (11 * j + 2) := nI_add _ 2
  have ep3 : nI (11 * j) + (3 : Int32) + nI k = nI (11 * j + 3 + k) := by rw [show (3 : Int32) = nI 3 from rfl, nI_add, nI_add]
  have r0' : R (11 * j) = 61 := r0
  rcases Nat.lt_or_ge k (2 * nb) with c | c
  · obtain ⟨y1, y2⟩ := hM k c
    unfold F_X4_canDo_L15
    rw [ep2, pq_rd (by omega) (by omega), r2, Option.bind_some, e2n, if_neg (nI_ge c (by omega)), pq_rd (by omega) (by omega), r0', Option.bind_some, if_pos rfl]
    rcases hfl with ⟨rfl, hf1, hall⟩ | ⟨rfl, hno⟩
    · rw [if_neg pq_10, ep3, pq_rd (by omega) (by omega), y1, Option.bind_some]
      rcases pq_acm (fu := fu) (s := s) hn h0 y2 with ⟨z1, z2⟩ | ⟨z1, z2⟩
      · rw [z1, Option.bind_some, if_neg pq_10, nI_1]
        refine hrec c _ _ ⟨rfl, Or.inl ⟨rfl, hf1, fun q hq => ?_⟩⟩
        rcases Nat.lt_or_ge q k with w | w
        · exact hall q w
        · obtain rfl : q = k := by omega
          exact z2
      · rw [z1, Option.bind_some, if_pos rfl, nI_1]
        exact hrec c _ _ ⟨rfl, Or.inr ⟨rfl, fun w => z2 (hG.mpr w.2 k c)⟩⟩
    · rw [if_pos rfl, nI_1]
      exact hrec c _ _ ⟨rfl, Or.inr ⟨rfl, hno⟩⟩
  · obtain rfl : k = 2 * nb := by omega
    unfold F_X4_canDo_L15
    rw [ep2, pq_rd (by omega) (by omega), r2, Option.bind_some, e2n, if_pos (Int32.le_refl _)]
    unfold F_X4_canDo_E73
    rcases hfl with ⟨rfl, hf1, hall⟩ | ⟨rfl, hno⟩
    · exact ⟨1, rfl, Or.inl ⟨rfl, hf1, hG.mp hall⟩⟩
    · exact ⟨0, rfl, Or.inr ⟨rfl, hno⟩⟩
/-- the branches of a rung are laid by both -/
theorem pq_layAll {fu n r0 nb j : Nat} {R rc ro pu dr cg : Nat → Int32} {inp mot tk ch : Int32} (hr0 : r0 < n) (hj : j < 16) (hnb : nb ≤ 4) (r2 : R (11 * j + 2) = nI nb) (hm : ∀ q, q < nb → R (11 * j + 3 + 2 * q) = rc q ∧ R (11 * j + 3 + 2 * q + 1) = ro q) (hG : pqGood n nb rc ro) (hf : 4096 ≤ fu) : ∀ (k i : Nat), i + k = nb → ∀ (b : Nat → Nat) (br cl op s : Nat → Int32) (v8 : Int32), b r0 = i → pqLad n b br cl op pu dr cg inp mot tk ch s → ∀ fc fr, k < fc → k < fr → ∃ (b2 : Nat → Nat) (br2 cl2 op2 s2 : Nat → Int32), zlp4 (F_X3_doRung_L61 fu (nI nb) rc ro (nI r0) (F_X3_doRung_E105)) fc (nI i) br cl op = some (1, br2, cl2, op2) ∧ zlp3 (F_X4_does_L62 fu R (nI (11 * j)) (nI r0) (F_X4_does_E113)) fr v8 (nI i) s = some s2 ∧ pqLad n b2 br2 cl2 op2 pu dr cg inp mot tk ch s2 := by
  intro k
  induction k with
  | zero =>
    intro i hi b br cl op s v8 hb h fc fr h1 h2
    obtain rfl : i = nb := by omega
    obtain ⟨fc, rfl⟩ : ∃ q, fc = q + 1 := ⟨fc - 1, by omega⟩
    obtain ⟨fr, rfl⟩ : ∃ q, fr = q + 1 := ⟨fr - 1, by omega⟩
    have ep2 : nI (11 * j) + (2 : Int32) = nI (11 * j + 2) := nI_add _ 2
    refine ⟨b, br, cl, op, s, ?_, ?_, h⟩
    · rw [zlp_s4, F_X3_doRung_L61, if_pos (Int32.le_refl _), F_X3_doRung_E105]
    · rw [zlp_s3, F_X4_does_L62, ep2, pq_rd (by omega) (by omega), r2, Option.bind_some, if_pos (Int32.le_refl _), F_X4_does_E113]
  | succ k ih =>
    intro i hi b br cl op s v8 hb h fc fr h1 h2
    obtain ⟨fc, rfl⟩ : ∃ q, fc = q + 1 := ⟨fc - 1, by omega⟩
    obtain ⟨fr, rfl⟩ : ∃ q, fr = q + 1 := ⟨fr - 1, by omega⟩
    have hn := h.1.1
    have ep2 : nI (11 * j) + (2 : Int32) = nI (11 * j + 2) := nI_add _ 2
    have ep3 : nI (11 * j) + (3 : Int32) + (2 : Int32) * nI i = nI (11 * j + 3 + 2 * i) := by rw [show (3 : Int32) = nI 3 from rfl, nI_add, show (2 : Int32) = nI 2 from rfl, pk_mul, nI_add]
    have ep4 : nI (11 * j) + (4 : Int32) + (2 : Int32) * nI i = nI (11 * j + 3 + 2 * i + 1) := by
      rw [show (4 : Int32) = nI 4 from rfl, nI_add, show (2 : Int32) = nI 2 from rfl, pk_mul, nI_add]
      congr 1
      omega
    obtain ⟨y1, y2⟩ := hm i (by omega)
    obtain ⟨M1, M2⟩ := hG i (by omega)
    have hbr := (h.1.2 r0 hr0).1
    have hs4 := (h.2.1.2.2.2 r0 hr0).2.2.2.1
    rw [hb] at hbr hs4
    have h3 := pq_layLad h hr0 (by omega) M1 M2
    rw [hb] at h3
    obtain ⟨b2, br2, cl2, op2, s2, g1, g2, g3⟩ := ih (i + 1) (by omega) _ _ _ _ _ (nI (i + 1)) pqBu_s h3 fc fr (by omega) (by omega)
    refine ⟨b2, br2, cl2, op2, s2, ?_, ?_, g3⟩
    · rw [zlp_s4, F_X3_doRung_L61, if_neg (nI_ge (by omega) (by omega)), pq_rd (by omega) (by omega), Option.bind_some, pq_rd (by omega) (by omega), Option.bind_some, pq_addB (by omega) hbr (by omega), Option.bind_some, nI_1]
      exact g1
    · rw [zlp_s3, F_X4_does_L62, ep2, pq_rd (by omega) (by omega), r2, Option.bind_some, if_neg (nI_ge (by omega) (by omega)), ep3, pq_rd (by omega) (by omega), y1, Option.bind_some, ep4, pq_rd (by omega) (by omega), y2, Option.bind_some, pq_lays (by omega) hs4 (by omega), Option.bind_some, nI_1]
      exact g2
