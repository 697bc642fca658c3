/-! The cure told: class and reference side by side. -/
theorem pq_curedCong {fu n : Nat} {b : Nat → Nat} {br cl op pu dr cg : Nat → Int32} {inp mot tk ch : Int32} {s s2 : Nat → Int32} (h : pqLad n b br cl op pu dr cg inp mot tk ch s) (hs : ∀ q, q < 88 → s2 q = s q) (hf : 4096 ≤ fu) : pqCured fu s ↔ pqCured fu s2 := by
  have h2 := pqLad_cong (s2 := s2) h (fun _ _ => rfl) (fun _ _ => rfl) (fun _ _ => rfl) (fun _ _ => rfl) (fun _ _ => rfl) (fun _ _ => rfl) hs
  obtain ⟨rr, st, told, wh, a1, a2, a3, a4, a5, a6, a7, hl, hd⟩ := pq_cuC (fu := fu) h.1 h.2.1 h.2.2.1 h.2.2.2.1 hf 0 0 0 0 (fun _ => 0) (fun _ => 0) (fun _ => 0) (fun _ => 0) (fun _ => 0) (fun _ => 0) (fun _ => 0)
  obtain ⟨rr', st', told', wh', b1, b2, b3, b4, b5, b6, b7, hl2, hd2⟩ := pq_cuC (fu := fu) h2.1 h2.2.1 h2.2.2.1 h2.2.2.2.1 hf 0 0 0 0 (fun _ => 0) (fun _ => 0) (fun _ => 0) (fun _ => 0) (fun _ => 0) (fun _ => 0) (fun _ => 0)
  rw [hl] at hl2
  simp only [Option.some.injEq, Prod.mk.injEq] at hl2
  obtain ⟨rfl, rfl, rfl, rfl, -⟩ := hl2
  rcases hd with ⟨z1, z2⟩ | ⟨z1, re, z2, z3⟩
  · rcases hd2 with ⟨y1, y2⟩ | ⟨y1, -⟩
    · exact ⟨fun z => absurd z z2, fun z => absurd z y2⟩
    · exact absurd z1 y1
  · rcases hd2 with ⟨y1, y2⟩ | ⟨y1, re2, y2, y3⟩
    · exact absurd y1 z1
    · rw [z2] at y2
      obtain rfl := Option.some.inj y2
      exact z3.trans y3.symm
theorem pq_dtCong {fu n : Nat} {b : Nat → Nat} {br cl op pu dr cg : Nat → Int32} {inp mot tk ch : Int32} {s s2 : Nat → Int32} (h : pqLad n b br cl op pu dr cg inp mot tk ch s) (hs : ∀ q, q < 88 → s2 q = s q) (hf : 4096 ≤ fu) {t : Nat} (ht : t < 9 * (2 * n)) : pqDt fu n s t ↔ pqDt fu n s2 t := by
  have hn := h.1.1
  have hrem : t % (2 * n) < 2 * n := Nat.mod_lt _ (by omega)
  have hr : t % (2 * n) / 2 < n := by omega
  have hw : t % 2 < 2 := Nat.mod_lt _ (by omega)
  unfold pqDt pqDp
  generalize t % (2 * n) / 2 = r at hr
  generalize t % 2 = w at hw
  generalize 1 + t / (2 * n) = a
  have e : s2 (4 + 14 * r + (2 + w)) = s (4 + 14 * r + (2 + w)) := hs _ (by omega)
  rw [e]
  have key : ∀ q, q + a ≤ 9 → (pqCured fu (upd s (4 + 14 * r + (2 + w)) (nI (q + a))) ↔ pqCured fu (upd s2 (4 + 14 * r + (2 + w)) (nI (q + a)))) := by
    intro q hq
    obtain ⟨pu2, dr2, h3⟩ := pq_modLad (p := nI (q + a)) h hr hw ⟨_, hq, rfl⟩
    refine pq_curedCong h3 (fun z hz => ?_) hf
    by_cases c : z = 4 + 14 * r + (2 + w)
    · rw [c, pk_us, pk_us]
    · rw [pk_un c, pk_un c]
      exact hs z hz
  constructor
  · rintro ⟨q, q1, q2, q3, q4⟩
    exact ⟨q, q1, q2, q3, (key q q3).mp q4⟩
  · rintro ⟨q, q1, q2, q3, q4⟩
    exact ⟨q, q1, q2, q3, (key q q3).mpr q4⟩
theorem pqCx_cong {fu n : Nat} {s s2 : Nat → Int32} {is am re wh : Int32} (h : ∀ t, t < 9 * (2 * n) → (pqDt fu n s t ↔ pqDt fu n s2 t)) (hx : pqCx fu n s2 is am re wh) : pqCx fu n s is am re wh := by
  rcases hx with ⟨h1, h2⟩ | ⟨T, h1, h2, h3, h4⟩
  · exact Or.inl ⟨h1, fun t ht z => h2 t ht ((h t ht).mp z)⟩
  · exact Or.inr ⟨T, h1, (h T h1).mpr h2, fun t ht z => h3 t ht ((h t (by omega)).mp z), h4⟩
/-- these are the answers of cure for the ladder that the row spells -/
def pqCA (fu : Nat) (s ca : Nat → Int32) : Prop := ∀ (c0 d0 ms0 it0 re0 le0 mo0 iw0 x0 x1 x2 : Int32) (th metR0 table0 ways0 wof0 into0 : Nat → Int32), ∃ r : pqRT, F_X4_findsCure fu c0 d0 ms0 it0 re0 le0 mo0 iw0 x0 x1 x2 s th metR0 table0 ways0 wof0 into0 = some r ∧ (r.1 = 0 ∧ (∀ i, i < 3 → ca i = -1) ∨ r.1 = 1 ∧ ca 0 = r.2.2.2.2.2.2.2.2.2.1 ∧ ca 1 = r.2.2.2.2.2.2.2.2.2.2.1 ∧ ca 2 = r.2.2.2.2.2.2.2.2.2.2.2.1)

theorem pq_findCure {fu n : Nat} {b : Nat → Nat} {br cl op pu dr cg : Nat → Int32} {inp mot tk ch rk ck : Int32} {s ra ca : Nat → Int32} (h : pqLad n b br cl op pu dr cg inp mot tk ch s) (hk : rk = 0 ∨ rk = 1 ∧ pqRA fu s ra) (hck : ck = 0 ∨ ck = 1 ∧ pqCA fu s ca) (hf : 4096 ≤ fu) (r9 i9 m9 t9 h9 : Int32) (b9 cl9 op9 pu9 dr9 cg9 : Nat → Int32) (w1 : Int64) (w2 w3 w4 : Int32) (w5 w6 w7 w8 w9 w10 w11 : Nat → Int32) : ∃ r : pqFT, F_X3_findCure fu rk ck (nI n) inp mot tk ch br cl op pu dr cg r9 i9 m9 t9 h9 b9 cl9 op9 pu9 dr9 cg9 w1 w2 w3 w4 w5 w6 w7 w8 w9 w10 w11 ra ca = some r ∧ (r.1 = 0 ∨ r.1 = 1 ∧ pqRA fu s (r.2.2.2.2.2.2.2.2.2.2.2.2.2.2.2.2.2.2.2.2.2.2.2.2.1)) ∧ r.2.1 = 1 ∧ pqCA fu s (r.2.2.2.2.2.2.2.2.2.2.2.2.2.2.2.2.2.2.2.2.2.2.2.2.2) := by
  rcases hck with rfl | ⟨rfl, hck⟩
  · obtain ⟨rr, st, told, wh, a1, a2, a3, a4, a5, a6, a7, ra2, eR, hRA⟩ := pq_findRace (fu := fu) (ra := ra) h.1 h.2.1 h.2.2.1 h.2.2.2.1 hk hf w1 w2 w3 w4 w5 w6 w7 w8 w9 w10 w11
    obtain ⟨CA, eC, hCA⟩ := pq_fillA (fu := fu) (N := 3) (a := ca) (x := -1) (by omega) hf
    unfold F_X3_findCure
    rw [if_pos rfl, eR, Option.bind_some, eC, Option.bind_some]
    simp only []
    rw [pq_rd0 (by omega) (by omega), Option.bind_some]
    -- what the class decides by
    have hJ : (if ra2 0 = 1 then (zrd ra2 5 (3 : Int32)).bind fun v94 => if v94 = 0 then F_X3_findCure_J49 fu br cg ch cl dr inp mot op pu (nI n) tk b9 cg9 h9 cl9 dr9 i9 m9 op9 pu9 r9 t9 (1, rr, st, told, wh, a1, a2, a3, a4, a5, a6, a7, ra2) CA 1 else F_X3_findCure_J49 fu br cg ch cl dr inp mot op pu (nI n) tk b9 cg9 h9 cl9 dr9 i9 m9 op9 pu9 r9 t9 (1, rr, st, told, wh, a1, a2, a3, a4, a5, a6, a7, ra2) CA 0 else F_X3_findCure_J49 fu br cg ch cl dr inp mot op pu (nI n) tk b9 cg9 h9 cl9 dr9 i9 m9 op9 pu9 r9 t9 (1, rr, st, told, wh, a1, a2, a3, a4, a5, a6, a7, ra2) CA 0) = F_X3_findCure_J49 fu br cg ch cl dr inp mot op pu (nI n) tk b9 cg9 h9 cl9 dr9 i9 m9 op9 pu9 r9 t9 (1, rr, st, told, wh, a1, a2, a3, a4, a5, a6, a7, ra2) CA (if ra2 0 = 1 ∧ ra2 3 = 0 then 1 else 0) := by
      rw [pq_rd3 (by omega) (by omega), Option.bind_some]
      by_cases z1 : ra2 0 = 1
      · by_cases z2 : ra2 3 = 0
        · rw [if_pos z1, if_pos z2, if_pos ⟨z1, z2⟩]
        · rw [if_pos z1, if_neg z2, if_neg (fun q => z2 q.2)]
      · rw [if_neg z1, if_neg (fun q => z1 q.1)]
    rw [hJ]
    unfold F_X3_findCure_J49
    simp only []
    rw [pq_rd0 (by omega) (by omega), Option.bind_some]
    obtain ⟨y1, y2, y3, ytold, yre, yle, ymo, yiw, u1, u2, u3, u4, u5, yr, yd⟩ := hRA 0 0 0 0 0 0 0 0 (fun _ => 0) (fun _ => 0) (fun _ => 0) (fun _ => 0) (fun _ => 0)
    by_cases c : ra2 0 = -1
    · rw [if_pos c]
      refine ⟨_, rfl, Or.inr ⟨rfl, hRA⟩, rfl, fun c0 d0 ms0 it0 re0 le0 mo0 iw0 x0 x1 x2 th metR0 table0 ways0 wof0 into0 => ?_⟩
      obtain ⟨z1, z2, z3, ztold, zre, zle, zmo, ziw, v1, v2, v3, v4, v5, zr, zd⟩ := hRA c0 d0 ms0 it0 re0 le0 mo0 iw0 metR0 table0 ways0 wof0 into0
      unfold F_X4_findsCure
      rw [zr, Option.bind_some]
      rcases zd with ⟨zd, -⟩ | ⟨-, zd, -, -, -, -, -, k, hk, ek⟩
      · simp only [zd, ↓reduceIte]
        exact ⟨_, rfl, Or.inl ⟨rfl, hCA⟩⟩
      · rw [zd, ek] at c
        exact absurd c (pq_ne1 (by omega))
    · rw [if_neg c]
      by_cases c2 : ra2 0 = 1 ∧ ra2 3 = 0
      · rw [if_pos c2, if_neg pq_10]
        refine ⟨_, rfl, Or.inr ⟨rfl, hRA⟩, rfl, fun c0 d0 ms0 it0 re0 le0 mo0 iw0 x0 x1 x2 th metR0 table0 ways0 wof0 into0 => ?_⟩
        obtain ⟨z1, z2, z3, ztold, zre, zle, zmo, ziw, v1, v2, v3, v4, v5, zr, zd⟩ := hRA c0 d0 ms0 it0 re0 le0 mo0 iw0 metR0 table0 ways0 wof0 into0
        unfold F_X4_findsCure
        rw [zr, Option.bind_some]
        rcases zd with ⟨-, zd⟩ | ⟨zt, zd0, -, -, zd3, -, -, -⟩
        · exact absurd (zd 0 (by omega)) c
        · have q1 : zre = 1 := zd0.symm.trans c2.1
          have q2 : ziw = 0 := zd3.symm.trans c2.2
          simp only [zt, q1, q2, pq_10, ↓reduceIte, F_X4_isCured, Option.bind_some]
          exact ⟨_, rfl, Or.inl ⟨rfl, hCA⟩⟩
      · rw [if_neg c2, if_pos rfl]
        obtain ⟨b2, cl2, op2, pu2, dr2, cg2, ec, j1, j2, j3, j4, j5, j6⟩ := pq_copy (fu := fu) r9 i9 m9 t9 h9 b9 cl9 op9 pu9 dr9 cg9 (nI n) inp mot tk ch br cg cl dr op pu
        have h2 := pqLad_cong (s2 := s) h j1 j2 j3 j4 j5 j6 (fun _ _ => rfl)
        obtain ⟨r, e1, e2, e3, e4, is, am, re, whi, hx, hx2⟩ := pq_cuLoop (fu := fu) h2 hf (1, rr, st, told, wh, a1, a2, a3, a4, a5, a6, a7, ra2) CA hCA rr st told wh a1 a2 a3 a4 a5 a6 a7
        rw [ec, Option.bind_some]
        refine ⟨r, e1, Or.inr ⟨e2, by rw [e4]; exact hRA⟩, e3, fun c0 d0 ms0 it0 re0 le0 mo0 iw0 x0 x1 x2 th metR0 table0 ways0 wof0 into0 => ?_⟩
        obtain ⟨z1, z2, z3, ztold, zre, zle, zmo, ziw, v1, v2, v3, v4, v5, zr, zd⟩ := hRA c0 d0 ms0 it0 re0 le0 mo0 iw0 metR0 table0 ways0 wof0 into0
        have hT : ∀ q, q < 88 → pqTt s th 88 q = s q := fun q hq => pqTt_at 88 hq
        have h3 := pqLad_cong (s2 := pqTt s th 88) h (fun _ _ => rfl) (fun _ _ => rfl) (fun _ _ => rfl) (fun _ _ => rfl) (fun _ _ => rfl) (fun _ _ => rfl) hT
        obtain ⟨rf, f1, f2⟩ := pq_cuRef (fu := fu) h3 hT hf z1 z2 z3 ztold zre zle zmo ziw x0 x1 x2 v1 v2 v3 v4 v5
        have f3 := pqCx_one hx (pqCx_cong (fun t ht => pq_dtCong h hT hf ht) f2)
        unfold F_X4_findsCure
        rw [zr, Option.bind_some]
        rcases zd with ⟨-, zd⟩ | ⟨zt, zd0, -, -, zd3, -, -, -⟩
        · exact absurd (zd 0 (by omega)) c
        · have hcu : F_X4_isCured fu ztold zre ziw = some 0 := by
            unfold F_X4_isCured
            rw [zt, if_neg pq_10]
            by_cases q1 : zre = 1
            · rw [if_pos q1, if_neg (fun q2 => c2 ⟨zd0.trans q1, zd3.trans q2⟩)]
            · rw [if_neg q1]
          have zt0 : ¬ ztold = 0 := by rw [zt]; exact pq_10
          simp only [zt0, ↓reduceIte, hcu, Option.bind_some, pq_tries hf]
          refine ⟨rf, f1, ?_⟩
          rcases hx2 with ⟨g1, g2⟩ | ⟨g1, g2, g3, g4⟩
          · exact Or.inl ⟨f3.1.symm.trans g1, g2⟩
          · obtain ⟨k1, k2, k3⟩ := f3.2 g1
            exact Or.inr ⟨f3.1.symm.trans g1, g2.trans k1, g3.trans k2, g4.trans k3⟩
  · unfold F_X3_findCure
    rw [if_neg pq_10]
    exact ⟨_, rfl, hk, rfl, hck⟩
