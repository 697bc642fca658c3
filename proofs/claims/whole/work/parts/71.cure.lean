/-! The least cure: both searches. -/
abbrev pqFT : Type := Int32 × Int32 × Int32 × Int32 × Int32 × Int32 × Int32 × (Nat → Int32) × (Nat → Int32) × (Nat → Int32) × (Nat → Int32) × (Nat → Int32) × (Nat → Int32) × Int64 × Int32 × Int32 × Int32 × (Nat → Int32) × (Nat → Int32) × (Nat → Int32) × (Nat → Int32) × (Nat → Int32) × (Nat → Int32) × (Nat → Int32) × (Nat → Int32) × (Nat → Int32)
abbrev pqV2 : Type := Int32 × Int64 × Int32 × Int32 × Int32 × (Nat → Int32) × (Nat → Int32) × (Nat → Int32) × (Nat → Int32) × (Nat → Int32) × (Nat → Int32) × (Nat → Int32) × (Nat → Int32)
abbrev pqRT : Type := Int32 × Int32 × Int32 × Int32 × Int32 × Int32 × Int32 × Int32 × Int32 × Int32 × Int32 × Int32 × (Nat → Int32) × (Nat → Int32) × (Nat → Int32) × (Nat → Int32) × (Nat → Int32) × (Nat → Int32)
theorem pq_dtn {n i r w : Nat} (hr : r < n) (hw : w < 2) : (i * (2 * n) + 2 * r + w) / (2 * n) = i ∧ (i * (2 * n) + 2 * r + w) % (2 * n) / 2 = r ∧ (i * (2 * n) + 2 * r + w) % 2 = w := by
  have e1 : (i * (2 * n) + 2 * r + w) / (2 * n) = i := by
    rw [show i * (2 * n) + 2 * r + w = (2 * r + w) + (2 * n) * i by rw [Nat.mul_comm i (2 * n)]; omega]
    exact pq_dvq (by omega)
  have e2 : (i * (2 * n) + 2 * r + w) % (2 * n) = 2 * r + w := by
    rw [show i * (2 * n) + 2 * r + w = (2 * r + w) + (2 * n) * i by rw [Nat.mul_comm i (2 * n)]; omega, Nat.add_mul_mod_self_left]
    exact Nat.mod_eq_of_lt (by omega)
  have e3 : (i * (2 * n) + 2 * r + w) % 2 = w := by
    have e : i * (2 * n) = 2 * (n * i) := by rw [Nat.mul_comm i (2 * n), Nat.mul_assoc]
    rw [show i * (2 * n) + 2 * r + w = w + 2 * (n * i + r) by rw [e, Nat.mul_add]; omega, Nat.add_mul_mod_self_left]
    exact Nat.mod_eq_of_lt hw
  exact ⟨e1, by rw [e2]; omega, e3⟩
/-- the row of answers of cure -/
def pqCAs (fu n : Nat) (th ca : Nat → Int32) : Prop := ∃ is am re wh, pqCx fu n th is am re wh ∧ (is = 0 ∧ (∀ i, i < 3 → ca i = -1) ∨ is = 1 ∧ ca 0 = am ∧ ca 1 = re ∧ ca 2 = wh)
theorem pq_cuHit {fu n i r w : Nat} {th CA : Nat → Int32} (hi : i < 9) (hr : r < n) (hw : w < 2) (hno : ∀ t, t < i * (2 * n) + 2 * r + w → ¬ pqDt fu n th t) (hD : pqDp fu th (1 + i) r w) : pqCAs fu n th (upd (upd (upd CA 0 (nI (1 + i))) 1 (nI r)) 2 (nI w)) := by
  obtain ⟨e1, e2, e3⟩ := pq_dtn (i := i) hr hw
  refine ⟨1, nI (1 + i), nI r, nI w, Or.inr ⟨i * (2 * n) + 2 * r + w, ?_, (pq_dt hr hw).mpr hD, hno, rfl, by rw [e1], by rw [e2], by rw [e3]⟩, Or.inr ⟨rfl, ?_, ?_, ?_⟩⟩
  · have h1 : (i + 1) * (2 * n) ≤ 9 * (2 * n) := Nat.mul_le_mul_right _ (by omega)
    rw [Nat.succ_mul] at h1
    omega
  · rw [pk_un (by omega), pk_un (by omega), pk_us]
  · rw [pk_un (by omega), pk_us]
  · exact pk_us

theorem pq_cuLoop {fu n : Nat} {b : Nat → Nat} {br cl op pu dr cg : Nat → Int32} {inp mot tk ch : Int32} {th : Nat → Int32} (h : pqLad n b br cl op pu dr cg inp mot tk ch th) (hf : 4096 ≤ fu) (v2 : pqV2) (CA : Nat → Int32) (hCA : ∀ i, i < 3 → CA i = -1) (w1 : Int64) (w2 w3 w4 : Int32) (w5 w6 w7 w8 w9 w10 w11 : Nat → Int32) : ∃ r : pqFT, zlp15 (F_X3_findCure_L78 fu v2 (nI n, inp, mot, tk, ch, br, cl, op, pu, dr, cg) (F_X3_findCure_E176 v2 (nI n, inp, mot, tk, ch, br, cl, op, pu, dr, cg))) fu (1 : Int32) pu dr w1 w2 w3 w4 w5 w6 w7 w8 w9 w10 w11 CA = some r ∧ r.1 = v2.1 ∧ r.2.1 = 1 ∧ r.2.2.2.2.2.2.2.2.2.2.2.2.2.2.2.2.2.2.2.2.2.2.2.2.1 = v2.2.2.2.2.2.2.2.2.2.2.2.2 ∧ pqCAs fu n th (r.2.2.2.2.2.2.2.2.2.2.2.2.2.2.2.2.2.2.2.2.2.2.2.2.2) := by
  have hn := h.1.1
  refine zlp_t15 (Q := fun (o : Option pqFT) => ∃ r : pqFT, o = some r ∧ r.1 = v2.1 ∧ r.2.1 = 1 ∧ r.2.2.2.2.2.2.2.2.2.2.2.2.2.2.2.2.2.2.2.2.2.2.2.2.1 = v2.2.2.2.2.2.2.2.2.2.2.2.2 ∧ pqCAs fu n th (r.2.2.2.2.2.2.2.2.2.2.2.2.2.2.2.2.2.2.2.2.2.2.2.2.2)) 9 (fun (i : Nat) (a1 : Int32) (a2 a3 : Nat → Int32) (_ : Int64) (_ _ _ : Int32) (_ _ _ _ _ _ _ : Nat → Int32) (a15 : Nat → Int32) => a1 = nI (1 + i) ∧ a2 = pu ∧ a3 = dr ∧ a15 = CA ∧ ∀ t, t < i * (2 * n) → ¬ pqDt fu n th t) ?_ (by omega) _ _ _ _ _ _ _ _ _ _ _ _ _ _ _ ⟨rfl, rfl, rfl, rfl, fun t z => absurd z (by omega)⟩
  rintro rec i hi hrec a1 a2 a3 x1 x2 x3 x4 x5 x6 x7 x8 x9 x10 x11 a15 ⟨h1, h2, h3, h4, hno⟩
  rw [h1, h2, h3, h4]
  rcases Nat.lt_or_ge i 9 with c | c
  · have h9 : ¬ (9 : Int32) < nI (1 + i) := nI_nlt (a := 9) (by omega) (by omega)
    rw [F_X3_findCure_L78, if_neg h9]
    refine zlp_t15 (Q := fun (o : Option pqFT) => ∃ r : pqFT, o = some r ∧ r.1 = v2.1 ∧ r.2.1 = 1 ∧ r.2.2.2.2.2.2.2.2.2.2.2.2.2.2.2.2.2.2.2.2.2.2.2.2.1 = v2.2.2.2.2.2.2.2.2.2.2.2.2 ∧ pqCAs fu n th (r.2.2.2.2.2.2.2.2.2.2.2.2.2.2.2.2.2.2.2.2.2.2.2.2.2)) n (fun (r : Nat) (a1 : Int32) (a2 a3 : Nat → Int32) (_ : Int64) (_ _ _ : Int32) (_ _ _ _ _ _ _ : Nat → Int32) (a15 : Nat → Int32) => a1 = nI r ∧ a2 = pu ∧ a3 = dr ∧ a15 = CA ∧ ∀ t, t < i * (2 * n) + 2 * r → ¬ pqDt fu n th t) ?_ (by omega) _ _ _ _ _ _ _ _ _ _ _ _ _ _ _ ⟨rfl, rfl, rfl, rfl, fun t z => hno t (by omega)⟩
    rintro rec2 r hr hrec2 b1 b2 b3 y1 y2 y3 y4 y5 y6 y7 y8 y9 y10 y11 b15 ⟨k1, k2, k3, k4, hno2⟩
    rw [k1, k2, k3, k4]
    rcases Nat.lt_or_ge r n with cr | cr
    · obtain ⟨v, rr, st, told, wh, a1, a2, a3, a4, a5, a6, a7, e1, hv⟩ := pq_cuPull (fu := fu) (a := 1 + i) h cr (by omega) hf y1 y2 y3 y4 y5 y6 y7 y8 y9 y10 y11
      rw [F_X3_findCure_L86, if_neg (nI_ge cr (by omega)), e1, Option.bind_some]
      rcases hv with ⟨rfl, hD0⟩ | ⟨rfl, hD0⟩
      · obtain ⟨v', rr', st', told', wh', a1', a2', a3', a4', a5', a6', a7', e2, hv2⟩ := pq_cuDrop (fu := fu) (a := 1 + i) h cr (by omega) hf rr st told wh a1 a2 a3 a4 a5 a6 a7
        simp only [↓reduceIte]
        rw [e2, Option.bind_some]
        have hno3 : ∀ t, t < i * (2 * n) + 2 * r + 1 → ¬ pqDt fu n th t := fun t ht => by
          rcases Nat.lt_or_ge t (i * (2 * n) + 2 * r) with z | z
          · exact hno2 t z
          · obtain rfl : t = i * (2 * n) + 2 * r + 0 := by omega
            exact fun q => hD0 ((pq_dt cr (by omega)).mp q)
        rcases hv2 with ⟨rfl, hD1⟩ | ⟨rfl, hD1⟩
        · simp only [↓reduceIte, nI_1]
          refine hrec2 cr _ _ _ _ _ _ _ _ _ _ _ _ _ _ _ ⟨rfl, rfl, rfl, rfl, fun t ht => ?_⟩
          rcases Nat.lt_or_ge t (i * (2 * n) + 2 * r + 1) with z | z
          · exact hno3 t z
          · obtain rfl : t = i * (2 * n) + 2 * r + 1 := by omega
            exact fun q => hD1 ((pq_dt cr (by omega)).mp q)
        · simp (disch := omega) only [↓reduceIte, pq_10, F_X3_findCure_J133, pq_wr0, pq_wr1, pq_wr2, Option.bind_some]
          exact ⟨_, rfl, rfl, rfl, rfl, pq_cuHit (w := 1) c cr (by omega) hno3 hD1⟩
      · simp (disch := omega) only [↓reduceIte, pq_10, F_X3_findCure_J133, pq_wr0, pq_wr1, pq_wr2, Option.bind_some]
        exact ⟨_, rfl, rfl, rfl, rfl, pq_cuHit (w := 0) c cr (by omega) hno2 hD0⟩
    · obtain rfl : r = n := by omega
      rw [F_X3_findCure_L86, if_pos (Int32.le_refl _), F_X3_findCure_E170, nI_1]
      exact hrec c _ _ _ _ _ _ _ _ _ _ _ _ _ _ _ ⟨rfl, rfl, rfl, rfl, fun t ht => hno2 t (by rw [Nat.succ_mul] at ht; exact ht)⟩
  · obtain rfl : i = 9 := by omega
    rw [F_X3_findCure_L78, if_pos (by decide), F_X3_findCure_E176]
    exact ⟨_, rfl, rfl, rfl, rfl, 0, 0, 0, 0, Or.inl ⟨rfl, hno⟩, Or.inl ⟨rfl, hCA⟩⟩

theorem pq_modLad {n r w : Nat} {b : Nat → Nat} {br cl op pu dr cg : Nat → Int32} {inp mot tk ch p : Int32} {s : Nat → Int32} (h : pqLad n b br cl op pu dr cg inp mot tk ch s) (hr : r < n) (hw : w < 2) (T : pqTm p) : ∃ pu2 dr2, pqLad n b br cl op pu2 dr2 cg inp mot tk ch (upd s (4 + 14 * r + (2 + w)) p) := by
  rcases (show w = 0 ∨ w = 1 by omega) with rfl | rfl
  · exact ⟨_, _, pq_puLad h hr T⟩
  · exact ⟨_, _, pq_drLad h hr T⟩
theorem pq_modAt {n r w : Nat} {b : Nat → Nat} {br cl op pu dr cg : Nat → Int32} {inp mot tk ch : Int32} {s : Nat → Int32} (h : pqLad n b br cl op pu dr cg inp mot tk ch s) (hr : r < n) (hw : w < 2) : ∃ t, t ≤ 9 ∧ s (4 + 14 * r + (2 + w)) = nI t := by
  rcases (show w = 0 ∨ w = 1 by omega) with rfl | rfl
  · obtain ⟨t, ht, et⟩ := (h.2.2.2.2.2.2.2.2 r hr).1
    exact ⟨t, ht, ((h.2.1.2.2.2 r hr).2.1).trans et⟩
  · obtain ⟨t, ht, et⟩ := (h.2.2.2.2.2.2.2.2 r hr).2
    exact ⟨t, ht, ((h.2.1.2.2.2 r hr).2.2.1).trans et⟩
theorem pq_cuRef {fu n : Nat} {b : Nat → Nat} {br cl op pu dr cg : Nat → Int32} {inp mot tk ch : Int32} {s th : Nat → Int32} (h : pqLad n b br cl op pu dr cg inp mot tk ch th) (hs : ∀ q, q < 88 → th q = s q) (hf : 4096 ≤ fu) (c0 d0 ms0 it0 re0 le0 mo0 iw0 x0 x1 x2 : Int32) (metR0 table0 ways0 wof0 into0 : Nat → Int32) : ∃ r : pqRT, zlp18 (F_X4_findsCure_L30 fu s (F_X4_findsCure_E175)) fu (0 : Int32) c0 d0 ms0 it0 re0 le0 mo0 iw0 x0 x1 x2 th metR0 table0 ways0 wof0 into0 = some r ∧ pqCx fu n th r.1 r.2.2.2.2.2.2.2.2.2.1 r.2.2.2.2.2.2.2.2.2.2.1 r.2.2.2.2.2.2.2.2.2.2.2.1 := by
  have hn := h.1.1
  have h0 : s 0 = nI n := by rw [← hs 0 (by omega)]; exact h.2.1.2.1
  refine zlp_t18 (Q := fun (o : Option pqRT) => ∃ r : pqRT, o = some r ∧ pqCx fu n th r.1 r.2.2.2.2.2.2.2.2.2.1 r.2.2.2.2.2.2.2.2.2.2.1 r.2.2.2.2.2.2.2.2.2.2.2.1) (9 * (2 * n)) (fun (t : Nat) (a1 _ _ _ _ _ _ _ _ _ _ _ : Int32) (a13 _ _ _ _ _ : Nat → Int32) => a1 = nI t ∧ a13 = th ∧ ∀ q, q < t → ¬ pqDt fu n th q) ?_ (by omega) _ _ _ _ _ _ _ _ _ _ _ _ _ _ _ _ _ _ ⟨rfl, rfl, fun q z => absurd z (Nat.not_lt_zero _)⟩
  rintro rec t ht hrec a1 a2 a3 a4 a5 a6 a7 a8 a9 a10 a11 a12 a13 a14 a15 a16 a17 a18 ⟨h1, h2, hno⟩
  rw [h1, h2]
  have e18 : (18 : Int32) * nI n = nI (9 * (2 * n)) := by rw [show (18 : Int32) = nI 18 from rfl, pk_mul]; congr 1; omega
  rcases Nat.lt_or_ge t (9 * (2 * n)) with c | c
  · have e2n : (2 : Int32) * nI n = nI (2 * n) := by rw [show (2 : Int32) = nI 2 from rfl, pk_mul]
    have hne : ¬ (2 : Int32) * nI n = 0 := by rw [e2n]; exact nI_ne0 (by omega) (by omega)
    have E2 : nI t / ((2 : Int32) * nI n) = nI (t / (2 * n)) := by rw [e2n]; exact pk_div (by omega) (by omega) (by omega)
    have E1 : nI t - nI (t / (2 * n)) * ((2 : Int32) * nI n) = nI (t % (2 * n)) := by rw [← E2, e2n]; exact pk_rem (by omega) (by omega) (by omega)
    have E4 : nI t / (2 : Int32) = nI (t / 2) := pk_div (d := 2) (by omega) (by omega) (by omega)
    have E3 : nI t - nI (t / 2) * (2 : Int32) = nI (t % 2) := by rw [← E4]; exact pk_rem (d := 2) (by omega) (by omega) (by omega)
    have hrem : t % (2 * n) < 2 * n := Nat.mod_lt _ (by omega)
    have E5 : nI (t % (2 * n)) / (2 : Int32) = nI (t % (2 * n) / 2) := pk_div (d := 2) (by omega) (by omega) (by omega)
    have E6 : (2 : Int32) + nI (t % 2) = nI (2 + t % 2) := nI_add 2 _
    have E7 : (1 : Int32) + nI (t / (2 * n)) = nI (1 + t / (2 * n)) := nI_add 1 _
    have hr : t % (2 * n) / 2 < n := by omega
    have hw : t % 2 < 2 := Nat.mod_lt _ (by omega)
    have ha : t / (2 * n) < 9 := Nat.div_lt_of_lt_mul (by rw [Nat.mul_comm]; exact c)
    obtain ⟨hd, hd9, ehd⟩ := pq_modAt h hr hw
    have ehs : s (4 + 14 * (t % (2 * n) / 2) + (2 + t % 2)) = nI hd := by rw [← hs _ (by omega), ehd]
    have hle : ¬ nI (9 * (2 * n)) ≤ nI t := nI_ge c (by omega)
    have hDt : pqDt fu n th t ↔ hd + (1 + t / (2 * n)) ≤ 9 ∧ pqCured fu (upd th (4 + 14 * (t % (2 * n) / 2) + (2 + t % 2)) (nI (hd + (1 + t / (2 * n))))) := by
      constructor
      · rintro ⟨t2, k1, k2, k3, k4⟩
        rw [ehd, nI_eq (by omega) (by omega)] at k1
        subst k1
        exact ⟨k3, k4⟩
      · rintro ⟨k3, k4⟩
        exact ⟨hd, ehd, hd9, k3, k4⟩
    unfold F_X4_findsCure_L30
    simp (disch := omega) only [pq_rd0, h0, Option.bind_some, e18, hle, ↓reduceIte, hne, show ¬ (2 : Int32) = 0 by decide, E2, E1, E4, E3, E5, E6, E7, pq_of, ehs, nI_add, nI_1]
    by_cases c9 : hd + (1 + t / (2 * n)) ≤ 9
    · have h9 : ¬ (9 : Int32) < nI (hd + (1 + t / (2 * n))) := nI_nlt (a := 9) c9 (by omega)
      obtain ⟨pu2, dr2, h3⟩ := pq_modLad (p := nI (hd + (1 + t / (2 * n)))) h hr hw ⟨_, c9, rfl⟩
      obtain ⟨c1, d1, ms, told, re, le, mo, iw, t1, t2, t3, t4, t5, v, g1, g2, g3⟩ := pq_cuR (fu := fu) h3.1 h3.2.1 h3.2.2.1 h3.2.2.2.1 hf a2 a3 a4 a5 a6 a7 a8 a9 a14 a15 a16 a17 a18
      simp (disch := omega) only [h9, ↓reduceIte, pq_puts, Option.bind_some, e_races, g1, g2, pq_back ehd]
      rcases g3 with ⟨rfl, g3⟩ | ⟨rfl, g3⟩
      · simp only [↓reduceIte]
        refine hrec c _ _ _ _ _ _ _ _ _ _ _ _ _ _ _ _ _ _ ⟨rfl, rfl, fun q hq => ?_⟩
        rcases Nat.lt_or_ge q t with z | z
        · exact hno q z
        · obtain rfl : q = t := by omega
          exact fun y => g3 (hDt.mp y).2
      · simp only [pq_10, ↓reduceIte]
        exact ⟨_, rfl, Or.inr ⟨t, c, hDt.mpr ⟨c9, g3⟩, hno, rfl, rfl, rfl, rfl⟩⟩
    · have h9 : (9 : Int32) < nI (hd + (1 + t / (2 * n))) := nI_lt (a := 9) (by omega) (by omega)
      simp only [h9, ↓reduceIte]
      refine hrec c _ _ _ _ _ _ _ _ _ _ _ _ _ _ _ _ _ _ ⟨rfl, rfl, fun q hq => ?_⟩
      rcases Nat.lt_or_ge q t with z | z
      · exact hno q z
      · obtain rfl : q = t := by omega
        exact fun y => c9 (hDt.mp y).1
  · obtain rfl : t = 9 * (2 * n) := by omega
    unfold F_X4_findsCure_L30
    rw [pq_rd0 (by omega) (by omega), h0, Option.bind_some, e18, if_pos (Int32.le_refl _)]
    exact ⟨_, rfl, Or.inl ⟨rfl, hno⟩⟩
