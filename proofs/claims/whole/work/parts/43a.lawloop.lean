/-! The law's loop. -/
def F_law_L (fu : Nat) (xs : Nat → Int32) (L : Nat) (rec23 : Int32 → XT → MT → (Nat → Int64) → Option Int32) (i : Int32) (x : XT) (w : MT) (out : Nat → Int64) : Option Int32 := if nI L - (4 : Int32) < i then some 1 else (zrd xs L i).bind fun v => if v &&& 31 = (0 : Int32) then F_law_c0 fu xs L rec23 x w out i else if v &&& 31 = (1 : Int32) then F_law_c1 fu xs L rec23 x w out i else if v &&& 31 = (2 : Int32) then F_law_c2 fu xs L rec23 x w out i else if v &&& 31 = (3 : Int32) then F_law_c3 fu xs L rec23 x w out i else if v &&& 31 = (4 : Int32) then F_law_c4 fu xs L rec23 x w out i else if v &&& 31 = (5 : Int32) then F_law_c5 fu xs L rec23 x w out i else if v &&& 31 = (6 : Int32) then F_law_c6 fu xs L rec23 x w out i else if v &&& 31 = (7 : Int32) then F_law_c7 fu xs L rec23 x w out i else if v &&& 31 = (8 : Int32) then F_law_c8 fu xs L rec23 x w out i else if v &&& 31 = (9 : Int32) then F_law_c9 fu xs L rec23 x w out i else if v &&& 31 = (10 : Int32) then F_law_c10 fu xs L rec23 x w out i else if v &&& 31 = (11 : Int32) then F_law_c11 fu xs L rec23 x w out i else if v &&& 31 = (12 : Int32) then F_law_c12 fu xs L rec23 x w out i else if v &&& 31 = (13 : Int32) then F_law_c13 fu xs L rec23 x w out i else if v &&& 31 = (14 : Int32) then F_law_c14 fu xs L rec23 x w out i else if v &&& 31 = (15 : Int32) then F_law_c15 fu xs L rec23 x w out i else if v &&& 31 = (16 : Int32) then F_law_c16 fu xs L rec23 x w out i else if v &&& 31 = (17 : Int32) then F_law_c17 fu xs L rec23 x w out i else if v &&& 31 = (18 : Int32) then F_law_c18 fu xs L rec23 x w out i else if v &&& 31 = (19 : Int32) then F_law_c19 fu xs L rec23 x w out i else if v &&& 31 = (20 : Int32) then F_law_c20 fu xs L rec23 x w out i else if v &&& 31 = (21 : Int32) then F_law_c21 fu xs L rec23 x w out i else if v &&& 31 = (22 : Int32) then F_law_c22 fu xs L rec23 x w out i else rec23 (i + (4 : Int32)) x w out
def F_law (fu : Nat) (xs : Nat → Int32) (L : Nat) (x : XT) (w : MT) (out : Nat → Int64) : Option Int32 := zlp4 (F_law_L fu xs L) fu 0 x w out
theorem law_ie {L it : Nat} (hL : L ≤ 2048) (hit : 4 * it ≤ 2048) (h : ¬ nI L - (4 : Int32) < nI (4 * it)) : 4 * (it + 1) ≤ L := by
  rw [Int32.lt_iff_toInt_lt, Int32.toInt_sub, nI_toInt (by omega), nI_toInt (by omega)] at h
  rw [show ((4 : Int32).toInt) = 4 from by decide, Int.bmod_eq_of_le (by omega) (by omega)] at h
  omega
theorem law_in (it : Nat) : nI (4 * it) + (4 : Int32) = nI (4 * (it + 1)) := nI_add (4 * it) 4
set_option maxHeartbeats 4000000 in
set_option maxRecDepth 100000 in
theorem law_loop {p : Program} {l : Launch} {e : Env} {s : State} {m : MethodId} {below : List Frame} {meth : Method} {c : Code} {b L : Nat} {xs : Nat → Int32} (hlt : l.stackTraces = false) {D : va_G} {cI cC cO cJ : ClassId} {A : Nat → Prop} {Q : State → Prop} (hx : p.tables.exec = Jvm.exec) (hb : c.code = cL_law) (hml : c.maxLocals = 9) (hown : s.vm.findClass RL = some m.cls) (hts : ∀ w ∈ wsL_law, w.before #[Value.ref b] s = true) (hX : va_X b L xs s s.heap) (hbl : b < s.heap.size) (hA : ∀ q, s.heap.size ≤ q → A q) (hbA : ¬ A b) (hK : va_K D vwCl (ztys cI cC cO cJ) s) (hE : zE A s) (hL : L ≤ 2048) (u : Nat → Nat → Nat) (um : Nat → Nat) (ao : Nat) (fu : Nat) (hend : ∀ (x : XT) (w : MT) (out : Nat → Int64) (i : Int32) (it : Nat), it ≤ 600 → ∀ (H : Heap) (locs : List Loc), va_P D vwCl (zLW cI cC cO cJ u um ao x w out) H → va_D A (zLW cI cC cO cJ u um ao x w out) → va_S A s.heap H locs → ∀ ls : Array Slot, lv_has ls 9 [(0, .ref b), (1, .ref (u 4 0)), (2, .ref (um 0)), (3, .ref ao), (4, .int i)] → W p l e room_1 s m #[Value.ref b] below meth c H locs (84 + it) (9656 + 6 * it) Q (F0 m 1281 ls [])) : ∀ (n : Nat) (i : Int32) (x : XT) (w : MT) (out : Nat → Int64), zlp4 (F_law_L fu xs L) n i x w out = some 1 → ∀ it : Nat, i = nI (4 * it) → 4 * it ≤ 2048 → ∀ (H : Heap) (locs : List Loc), va_P D vwCl (zLW cI cC cO cJ u um ao x w out) H → va_D A (zLW cI cC cO cJ u um ao x w out) → va_S A s.heap H locs → ∀ ls : Array Slot, lv_has ls 9 [(0, .ref b), (1, .ref (u 4 0)), (2, .ref (um 0)), (3, .ref ao), (4, .int i)] → W p l e room_1 s m #[Value.ref b] below meth c H locs (84 + it) (9656 + 6 * it) Q (F0 m 23 ls []) := by
  refine zlp_i4 (fun i x w out => ∀ it : Nat, i = nI (4 * it) → 4 * it ≤ 2048 → ∀ (H : Heap) (locs : List Loc), va_P D vwCl (zLW cI cC cO cJ u um ao x w out) H → va_D A (zLW cI cC cO cJ u um ao x w out) → va_S A s.heap H locs → ∀ ls : Array Slot, lv_has ls 9 [(0, .ref b), (1, .ref (u 4 0)), (2, .ref (um 0)), (3, .ref ao), (4, .int i)] → W p l e room_1 s m #[Value.ref b] below meth c H locs (84 + it) (9656 + 6 * it) Q (F0 m 23 ls [])) ?_
  intro rec hrec i x w out h it hi hit H locs hP hD hS ls hl
  unfold F_law_L at h
  refine lv_iload hx hb dL_law_23 (lv_at hl 4 rfl) ?_
  refine lv_aload_n hx hb dL_law_25 rfl (lv_at hl 0 rfl) ?_
  refine va_slen hx hb hX hbl hbA hS dL_law_26 ?_
  refine lv_iconst (v := (4 : Int32)) hx hb dL_law_27 (by decide) ?_
  refine lv_isub hx hb dL_law_28 ?_
  refine lv_icmp_gt (tgt := 1281) hx hb dL_law_29 (by decide) (fun c1 => ?_) (fun c1 => ?_)
  · exact hend x w out i it (by omega) H locs hP hD hS ls hl
  · have h := zif_f c1 h
    have hb4 : 4 * (it + 1) ≤ 2048 := Nat.le_trans (law_ie hL hit (by rw [← hi]; exact c1)) hL
    have hnx : i + (4 : Int32) = nI (4 * (it + 1)) := by rw [hi]; exact law_in it
    have hi6 : it < 600 := by omega
    refine lv_aload_n hx hb dL_law_32 rfl (lv_at hl 0 rfl) ?_
    refine lv_iload hx hb dL_law_33 (lv_at hl 4 rfl) ?_
    obtain ⟨v, hv, h⟩ := zbnd h
    refine zr_sld hx hb hX hbl hbA hS hv dL_law_35 ?_
    refine lv_bipush (v := (31 : Int32)) hx hb dL_law_36 (by decide) ?_
    refine lv_iand hx hb dL_law_38 ?_
    have ih : ∀ (x : XT) (w : MT) (out : Nat → Int64), rec (i + (4 : Int32)) x w out = some 1 → ∀ (H : Heap) (locs : List Loc), va_P D vwCl (zLW cI cC cO cJ u um ao x w out) H → va_D A (zLW cI cC cO cJ u um ao x w out) → va_S A s.heap H locs → ∀ ls : Array Slot, lv_has ls 9 [(0, .ref b), (1, .ref (u 4 0)), (2, .ref (um 0)), (3, .ref ao), (4, .int (i + (4 : Int32)))] → W p l e room_1 s m #[Value.ref b] below meth c H locs (84 + (it + 1)) (9656 + 6 * (it + 1)) Q (F0 m 23 ls []) := fun x w out hr H locs hP hD hS ls hl => hrec (i + (4 : Int32)) x w out hr (it + 1) hnx hb4 H locs hP hD hS ls hl
    by_cases d0 : v &&& 31 = (0 : Int32)
    · have h := zif_t d0 h
      refine lv_tableIn (off := 105) (tgt := 144) hx hb dL_law_39 (by rw [d0]; decide) (by rw [d0]; decide) (by rw [d0]; decide) (by decide) ?_
      exact lawc_0 hlt hx hb hml hown hts hX hbl hA hbA hK hE u um ao fu rec x w out i it hi6 ih h H locs hP hD hS ls hl
    have h := zif_f d0 h
    by_cases d1 : v &&& 31 = (1 : Int32)
    · have h := zif_t d1 h
      refine lv_tableIn (off := 173) (tgt := 212) hx hb dL_law_39 (by rw [d1]; decide) (by rw [d1]; decide) (by rw [d1]; decide) (by decide) ?_
      exact lawc_1 hlt hx hb hml hown hts hX hbl hA hbA hK hE u um ao fu rec x w out i it hi6 ih h H locs hP hD hS ls hl
    have h := zif_f d1 h
    by_cases d2 : v &&& 31 = (2 : Int32)
    · have h := zif_t d2 h
      refine lv_tableIn (off := 253) (tgt := 292) hx hb dL_law_39 (by rw [d2]; decide) (by rw [d2]; decide) (by rw [d2]; decide) (by decide) ?_
      exact lawc_2 hlt hx hb hml hown hts hX hbl hA hbA hK hE u um ao fu rec x w out i it hi6 ih h H locs hP hD hS ls hl
    have h := zif_f d2 h
    by_cases d3 : v &&& 31 = (3 : Int32)
    · have h := zif_t d3 h
      refine lv_tableIn (off := 309) (tgt := 348) hx hb dL_law_39 (by rw [d3]; decide) (by rw [d3]; decide) (by rw [d3]; decide) (by decide) ?_
      exact lawc_3 hlt hx hb hml hown hts hX hbl hA hbA hK hE u um ao fu rec x w out i it hi6 ih h H locs hP hD hS ls hl
    have h := zif_f d3 h
    by_cases d4 : v &&& 31 = (4 : Int32)
    · have h := zif_t d4 h
      refine lv_tableIn (off := 389) (tgt := 428) hx hb dL_law_39 (by rw [d4]; decide) (by rw [d4]; decide) (by rw [d4]; decide) (by decide) ?_
      exact lawc_4 hlt hx hb hml hown hts hX hbl hA hbA hK hE u um ao fu rec x w out i it hi6 ih h H locs hP hD hS ls hl
    have h := zif_f d4 h
    by_cases d5 : v &&& 31 = (5 : Int32)
    · have h := zif_t d5 h
      refine lv_tableIn (off := 445) (tgt := 484) hx hb dL_law_39 (by rw [d5]; decide) (by rw [d5]; decide) (by rw [d5]; decide) (by decide) ?_
      exact lawc_5 hlt hx hb hml hown hts hX hbl hA hbA hK hE u um ao fu rec x w out i it hi6 ih h H locs hP hD hS ls hl
    have h := zif_f d5 h
    by_cases d6 : v &&& 31 = (6 : Int32)
    · have h := zif_t d6 h
      refine lv_tableIn (off := 501) (tgt := 540) hx hb dL_law_39 (by rw [d6]; decide) (by rw [d6]; decide) (by rw [d6]; decide) (by decide) ?_
      exact lawc_6 hlt hx hb hml hown hts hX hbl hA hbA hK hE u um ao fu rec x w out i it hi6 ih h H locs hP hD hS ls hl
    have h := zif_f d6 h
    by_cases d7 : v &&& 31 = (7 : Int32)
    · have h := zif_t d7 h
      refine lv_tableIn (off := 545) (tgt := 584) hx hb dL_law_39 (by rw [d7]; decide) (by rw [d7]; decide) (by rw [d7]; decide) (by decide) ?_
      exact lawc_7 hlt hx hb hml hown hts hX hbl hA hbA hK hE u um ao fu rec x w out i it hi6 ih h H locs hP hD hS ls hl
    have h := zif_f d7 h
    by_cases d8 : v &&& 31 = (8 : Int32)
    · have h := zif_t d8 h
      refine lv_tableIn (off := 558) (tgt := 597) hx hb dL_law_39 (by rw [d8]; decide) (by rw [d8]; decide) (by rw [d8]; decide) (by decide) ?_
      exact lawc_8 hlt hx hb hml hown hts hX hbl hA hbA hK hE u um ao fu rec x w out i it hi6 ih h H locs hP hD hS ls hl
    have h := zif_f d8 h
    by_cases d9 : v &&& 31 = (9 : Int32)
    · have h := zif_t d9 h
      refine lv_tableIn (off := 614) (tgt := 653) hx hb dL_law_39 (by rw [d9]; decide) (by rw [d9]; decide) (by rw [d9]; decide) (by decide) ?_
      exact lawc_9 hlt hx hb hml hown hts hX hbl hA hbA hK hE u um ao fu rec x w out i it hi6 ih h H locs hP hD hS ls hl
    have h := zif_f d9 h
    by_cases d10 : v &&& 31 = (10 : Int32)
    · have h := zif_t d10 h
      refine lv_tableIn (off := 627) (tgt := 666) hx hb dL_law_39 (by rw [d10]; decide) (by rw [d10]; decide) (by rw [d10]; decide) (by decide) ?_
      exact lawc_10 hlt hx hb hml hown hts hX hbl hA hbA hK hE u um ao fu rec x w out i it hi6 ih h H locs hP hD hS ls hl
    have h := zif_f d10 h
    by_cases d11 : v &&& 31 = (11 : Int32)
    · have h := zif_t d11 h
      refine lv_tableIn (off := 640) (tgt := 679) hx hb dL_law_39 (by rw [d11]; decide) (by rw [d11]; decide) (by rw [d11]; decide) (by decide) ?_
      exact lawc_11 hlt hx hb hml hown hts hX hbl hA hbA hK hE u um ao fu rec x w out i it hi6 ih h H locs hP hD hS ls hl
    have h := zif_f d11 h
    by_cases d12 : v &&& 31 = (12 : Int32)
    · have h := zif_t d12 h
      refine lv_tableIn (off := 684) (tgt := 723) hx hb dL_law_39 (by rw [d12]; decide) (by rw [d12]; decide) (by rw [d12]; decide) (by decide) ?_
      exact lawc_12 hlt hx hb hml hown hts hX hbl hA hbA hK hE u um ao fu rec x w out i it hi6 ih h H locs hP hD hS ls hl
    have h := zif_f d12 h
    by_cases d13 : v &&& 31 = (13 : Int32)
    · have h := zif_t d13 h
      refine lv_tableIn (off := 728) (tgt := 767) hx hb dL_law_39 (by rw [d13]; decide) (by rw [d13]; decide) (by rw [d13]; decide) (by decide) ?_
      exact lawc_13 hlt hx hb hml hown hts hX hbl hA hbA hK hE u um ao fu rec x w out i it hi6 ih h H locs hP hD hS ls hl
    have h := zif_f d13 h
    by_cases d14 : v &&& 31 = (14 : Int32)
    · have h := zif_t d14 h
      refine lv_tableIn (off := 796) (tgt := 835) hx hb dL_law_39 (by rw [d14]; decide) (by rw [d14]; decide) (by rw [d14]; decide) (by decide) ?_
      exact lawc_14 hlt hx hb hml hown hts hX hbl hA hbA hK hE u um ao fu rec x w out i it hi6 ih h H locs hP hD hS ls hl
    have h := zif_f d14 h
    by_cases d15 : v &&& 31 = (15 : Int32)
    · have h := zif_t d15 h
      refine lv_tableIn (off := 876) (tgt := 915) hx hb dL_law_39 (by rw [d15]; decide) (by rw [d15]; decide) (by rw [d15]; decide) (by decide) ?_
      exact lawc_15 hlt hx hb hml hown hts hX hbl hA hbA hK hE u um ao fu rec x w out i it hi6 ih h H locs hP hD hS ls hl
    have h := zif_f d15 h
    by_cases d16 : v &&& 31 = (16 : Int32)
    · have h := zif_t d16 h
      refine lv_tableIn (off := 932) (tgt := 971) hx hb dL_law_39 (by rw [d16]; decide) (by rw [d16]; decide) (by rw [d16]; decide) (by decide) ?_
      exact lawc_16 hlt hx hb hml hown hts hX hbl hA hbA hK hE u um ao fu rec x w out i it hi6 ih h H locs hP hD hS ls hl
    have h := zif_f d16 h
    by_cases d17 : v &&& 31 = (17 : Int32)
    · have h := zif_t d17 h
      refine lv_tableIn (off := 1000) (tgt := 1039) hx hb dL_law_39 (by rw [d17]; decide) (by rw [d17]; decide) (by rw [d17]; decide) (by decide) ?_
      exact lawc_17 hlt hx hb hml hown hts hX hbl hA hbA hK hE u um ao fu rec x w out i it hi6 ih h H locs hP hD hS ls hl
    have h := zif_f d17 h
    by_cases d18 : v &&& 31 = (18 : Int32)
    · have h := zif_t d18 h
      refine lv_tableIn (off := 1056) (tgt := 1095) hx hb dL_law_39 (by rw [d18]; decide) (by rw [d18]; decide) (by rw [d18]; decide) (by decide) ?_
      exact lawc_18 hlt hx hb hml hown hts hX hbl hA hbA hK hE u um ao fu rec x w out i it hi6 ih h H locs hP hD hS ls hl
    have h := zif_f d18 h
    by_cases d19 : v &&& 31 = (19 : Int32)
    · have h := zif_t d19 h
      refine lv_tableIn (off := 1112) (tgt := 1151) hx hb dL_law_39 (by rw [d19]; decide) (by rw [d19]; decide) (by rw [d19]; decide) (by decide) ?_
      exact lawc_19 hlt hx hb hml hown hts hX hbl hA hbA hK hE u um ao fu rec x w out i it hi6 ih h H locs hP hD hS ls hl
    have h := zif_f d19 h
    by_cases d20 : v &&& 31 = (20 : Int32)
    · have h := zif_t d20 h
      refine lv_tableIn (off := 1125) (tgt := 1164) hx hb dL_law_39 (by rw [d20]; decide) (by rw [d20]; decide) (by rw [d20]; decide) (by decide) ?_
      exact lawc_20 hlt hx hb hml hown hts hX hbl hA hbA hK hE u um ao fu rec x w out i it hi6 ih h H locs hP hD hS ls hl
    have h := zif_f d20 h
    by_cases d21 : v &&& 31 = (21 : Int32)
    · have h := zif_t d21 h
      refine lv_tableIn (off := 1181) (tgt := 1220) hx hb dL_law_39 (by rw [d21]; decide) (by rw [d21]; decide) (by rw [d21]; decide) (by decide) ?_
      exact lawc_21 hlt hx hb hml hown hts hX hbl hA hbA hK hE u um ao fu rec x w out i it hi6 ih h H locs hP hD hS ls hl
    have h := zif_f d21 h
    by_cases d22 : v &&& 31 = (22 : Int32)
    · have h := zif_t d22 h
      refine lv_tableIn (off := 1222) (tgt := 1261) hx hb dL_law_39 (by rw [d22]; decide) (by rw [d22]; decide) (by rw [d22]; decide) (by decide) ?_
      exact lawc_22 hlt hx hb hml hown hts hX hbl hA hbA hK hE u um ao fu rec x w out i it hi6 ih h H locs hP hD hS ls hl
    have h := zif_f d22 h
    refine lv_tableOut (tgt := 1275) hx hb dL_law_39 (by have q0 := zsw (c := (0 : Int32)) (k := 0) (by decide) d0; have q1 := zsw (c := (1 : Int32)) (k := 1) (by decide) d1; have q2 := zsw (c := (2 : Int32)) (k := 2) (by decide) d2; have q3 := zsw (c := (3 : Int32)) (k := 3) (by decide) d3; have q4 := zsw (c := (4 : Int32)) (k := 4) (by decide) d4; have q5 := zsw (c := (5 : Int32)) (k := 5) (by decide) d5; have q6 := zsw (c := (6 : Int32)) (k := 6) (by decide) d6; have q7 := zsw (c := (7 : Int32)) (k := 7) (by decide) d7; have q8 := zsw (c := (8 : Int32)) (k := 8) (by decide) d8; have q9 := zsw (c := (9 : Int32)) (k := 9) (by decide) d9; have q10 := zsw (c := (10 : Int32)) (k := 10) (by decide) d10; have q11 := zsw (c := (11 : Int32)) (k := 11) (by decide) d11; have q12 := zsw (c := (12 : Int32)) (k := 12) (by decide) d12; have q13 := zsw (c := (13 : Int32)) (k := 13) (by decide) d13; have q14 := zsw (c := (14 : Int32)) (k := 14) (by decide) d14; have q15 := zsw (c := (15 : Int32)) (k := 15) (by decide) d15; have q16 := zsw (c := (16 : Int32)) (k := 16) (by decide) d16; have q17 := zsw (c := (17 : Int32)) (k := 17) (by decide) d17; have q18 := zsw (c := (18 : Int32)) (k := 18) (by decide) d18; have q19 := zsw (c := (19 : Int32)) (k := 19) (by decide) d19; have q20 := zsw (c := (20 : Int32)) (k := 20) (by decide) d20; have q21 := zsw (c := (21 : Int32)) (k := 21) (by decide) d21; have q22 := zsw (c := (22 : Int32)) (k := 22) (by decide) d22; omega) (by decide) ?_
    refine lv_iinc (v := (i + (4 : Int32))) (lv' := [(4, .int (i + (4 : Int32))), (0, .ref b), (1, .ref (u 4 0)), (2, .ref (um 0)), (3, .ref ao)]) hx hb dL_law_1275 hl (k := 4) rfl rfl (by decide) rfl (fun ls hl => ?_)
    refine lv_goto (tgt := 23) hx hb dL_law_1278 (by decide) ?_
    refine W.widen (k := 84 + (it + 1)) (n := 9656 + 6 * (it + 1)) (by omega) (by omega) ?_
    exact ih x w out h H locs hP hD hS ls (lv_sub hl [1, 2, 3, 4, 0] rfl)
