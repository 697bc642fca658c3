/-! What holds at the law's entry. -/
set_option maxHeartbeats 4000000 in
set_option maxRecDepth 100000 in
theorem lw_zV {s : State} {as : Array Value} (hts : ∀ w ∈ lw_tbl, w.before as s = true) (hgv : (Jvm.Cond.and given_1 narrow_1).before as s = true) : zV s := by
  have hs := flat_of_before _ hgv
  refine ⟨fun w hw => va_Nw.of (A := as) ((by decide +kernel : ∀ w ∈ zCast, w.onTables = true) w hw) (hts w ((by decide +kernel : ∀ w ∈ zCast, w ∈ lw_tbl) w hw)), fun q hq => va_Nc.of (args := as) (hs _ ?_), fun q hq => ?_⟩
  · revert q
    decide +kernel
  · have h1 : (Cond.stringRef RX3 q.1 q.2).before as s = true := hts _ (by revert q; decide +kernel)
    have h2 : (Cond.exactly (.string RX3 q.1) "java/lang/String").before as s = true := hs _ ((by decide +kernel : ∀ q ∈ zTexts, Cond.exactly (.string RX3 q.1) "java/lang/String" ∈ flatC (Jvm.Cond.and given_1 narrow_1)) q hq)
    obtain ⟨a, c, cell, k, h3, -⟩ := Cond.exactly_spec h2
    exact ⟨a, vk_R.of (A := as) h1 h3⟩
set_option maxHeartbeats 4000000 in
set_option maxRecDepth 100000 in
theorem lw_zE {s : State} {as : Array Value} {A : Nat → Prop} (hts : ∀ w ∈ lw_tbl, w.before as s = true) (hgv : (Jvm.Cond.and given_1 narrow_1).before as s = true) (hA : ∀ a : Nat, a < s.heap.size → ¬ A a) : zE A s := by
  have hs := flat_of_before _ hgv
  refine ⟨vx_Zqof (hts _ (by decide +kernel)) (hts _ (by decide +kernel)) (hs _ (by decide +kernel)) hA, vx_Zqof (hts _ (by decide +kernel)) (hts _ (by decide +kernel)) (hs _ (by decide +kernel)) hA, ?_, lw_zV hts hgv⟩
  have h4 : (Cond.eq (.length (.static RX3 "HASHED_INPUTS" "[I")) (.int 4)).before as s = true := hs _ (by decide +kernel)
  have e0 : (Cond.eq (.elem (.static RX3 "HASHED_INPUTS" "[I") (.int 0)) (.int 0)).before as s = true := hs _ (by decide +kernel)
  have e1 : (Cond.eq (.elem (.static RX3 "HASHED_INPUTS" "[I") (.int 1)) (.int 1)).before as s = true := hs _ (by decide +kernel)
  have e2 : (Cond.eq (.elem (.static RX3 "HASHED_INPUTS" "[I") (.int 2)) (.int 6)).before as s = true := hs _ (by decide +kernel)
  have e3 : (Cond.eq (.elem (.static RX3 "HASHED_INPUTS" "[I") (.int 3)) (.int 15)).before as s = true := hs _ (by decide +kernel)
  obtain ⟨t, ht, hT⟩ := va_Tof (args := as) (s := s) (tm := .static RX3 "HASHED_INPUTS" "[I") (ty := .int) (N := 4) (f := zHI) (A := A) (by decide) (hs _ (by decide +kernel)) (Cond.eq_int h4 rfl) (fun j hj => by
    rcases (show j = 0 ∨ j = 1 ∨ j = 2 ∨ j = 3 by omega) with rfl | rfl | rfl | rfl
    · exact Cond.eq_int e0 rfl
    · exact Cond.eq_int e1 rfl
    · exact Cond.eq_int e2 rfl
    · exact Cond.eq_int e3 rfl) hA
  exact ⟨t, va_Zof (args := as) (hts _ (by decide +kernel)) (hts _ (by decide +kernel)) ht hA, hT⟩
theorem lw_zNi {s : State} {as : Array Value} (hts : ∀ w ∈ lw_tbl, w.before as s = true) : zNi s :=
  ⟨va_AO.of (A := as) (hts _ (by decide +kernel)), va_Nw.of (A := as) rfl (hts _ (by decide +kernel)), va_Nw.of (A := as) rfl (hts _ (by decide +kernel)), va_Nw.of (A := as) rfl (hts _ (by decide +kernel))⟩
theorem lw_arr {s : State} {as : Array Value} {ty : FieldType} (hty : ∀ C, ty ≠ .object C) (h : (Cond.arrayClass ty).before as s = true) : ∃ c : ClassId, ArrOfT s c ty ∧ va_RA s c ty := by
  obtain ⟨c, k, comp, h1, h2, h3⟩ := Cond.arrayClass_spec h
  refine ⟨c, fun n z => ⟨fun k h => ?_, k, h2, comp, h3⟩, ?_⟩
  · cases h
  · cases ty with
    | object C => exact absurd rfl (hty C)
    | _ => exact h1
theorem lw_arrq {s : State} {as : Array Value} {C : String} (h : (Cond.arrayOver (.object C)).before as s = true) : ∃ c : ClassId, ArrOfT s c (.object C) ∧ va_RA s c (.object C) := by
  obtain ⟨comp, c, k, h1, h2, h3, h4, h5⟩ := Cond.arrayOver_spec h
  exact ⟨c, fun n z => ⟨fun k h => (by cases h), k, h3, comp, h4⟩, k, comp, h3, h4, h1, h5⟩
set_option maxHeartbeats 4000000 in
set_option maxRecDepth 100000 in
theorem lw_K {s : State} {as : Array Value} (hts : ∀ w ∈ lw_tbl, w.before as s = true) : ∃ (D : va_G) (cI cC cO cJ : ClassId), va_K D vwCl (ztys cI cC cO cJ) s := by
  obtain ⟨cI, i1, i2⟩ := lw_arr (ty := .int) (fun C h => by cases h) (hts _ (by decide +kernel))
  obtain ⟨cC, j1, j2⟩ := lw_arr (ty := .char) (fun C h => by cases h) (hts _ (by decide +kernel))
  obtain ⟨cO, o1, o2⟩ := lw_arrq (C := RX0) (hts _ (by decide +kernel))
  obtain ⟨cJ, l1, l2⟩ := lw_arr (ty := .long) (fun C h => by cases h) (hts _ (by decide +kernel))
  obtain ⟨c0, iS0, hKn0⟩ := u_known (C := RX0) (T := TX0) (N := 11) (n := 11) hts inX0 (hts (.instantiable RX0 11) (by decide +kernel))
  obtain ⟨c1, iS1, hKn1⟩ := u_known (C := RX1) (T := TX1) (N := 8) (n := 8) hts inX1 (hts (.instantiable RX1 8) (by decide +kernel))
  obtain ⟨c2, iS2, hKn2⟩ := u_known (C := RX2) (T := TX2) (N := 11) (n := 11) hts inX2 (hts (.instantiable RX2 11) (by decide +kernel))
  obtain ⟨c3, iS3, hKn3⟩ := u_known (C := RX3) (T := TX3) (N := 12) (n := 12) hts inX3 (hts (.instantiable RX3 12) (by decide +kernel))
  obtain ⟨c4, iS4, hKn4⟩ := u_known (C := RX4) (T := TX4) (N := 28) (n := 28) hts inX4 (hts (.instantiable RX4 28) (by decide +kernel))
  refine ⟨(fun k => if k = 0 then c0 else if k = 1 then c1 else if k = 2 then c2 else if k = 3 then c3 else c4, fun k => if k = 0 then iS0 else if k = 1 then iS1 else if k = 2 then iS2 else if k = 3 then iS3 else iS4), cI, cC, cO, cJ, fun k q hq => ?_, fun k q hq => ?_⟩
  · match k, hq with
    | 0, hq => cases hq; exact hKn0
    | 1, hq => cases hq; exact hKn1
    | 2, hq => cases hq; exact hKn2
    | 3, hq => cases hq; exact hKn3
    | 4, hq => cases hq; exact hKn4
    | k + 5, hq => simp [vwCl] at hq
  · match k, hq with
    | 0, hq => cases hq; exact ⟨i1, i2⟩
    | 1, hq => cases hq; exact ⟨j1, j2⟩
    | 2, hq => cases hq; exact ⟨o1, o2⟩
    | 3, hq => cases hq; exact ⟨l1, l2⟩
    | k + 4, hq => simp [ztys] at hq
